/**
 * The boundaries of the ledger, its rules and its audits: for each sentence of 'The ledger', 'Rules' and 'Audits' that
 * names one, what is due on it, one step inside and one step outside. Above each method stands its sentence.
 */
public final class LedgerBoundaryTest {
    private static final Class<IllegalStateException> STATE = IllegalStateException.class;
    private static final Class<IllegalArgumentException> ARGUMENT = IllegalArgumentException.class;
    private static final Class<IndexOutOfBoundsException> INDEX = IndexOutOfBoundsException.class;

    public static void main(String[] args) {
        aNewObject();
        atMostTwentyFourEntries();
        whatWasPostedCanBeWrittenAnew();
        proofFromZero();
        proofWithOverflow();
        proofWithOverflowInTheSeventeen();
        proofByTheWrittenFormsOfNow();
        struckOutIsWrittenAsMinus();
        struckOutCountsAsNothing();
        struckOutCanBeWrittenAnew();
        howManyAreNotStruckOut();
        atMostEightRules();
        balanced();
        atMostTheNumber();
        withTheOtherOne();
        staysAtLeastTheNumber();
        staysByAllAhead();
        doubtedByNoRuleButStays();
        oneBitForEachRule();
        countsTheEntriesThatARuleDoubts();
        aRuleCanBeTakenBack();
        atMostSixAudits();
        freezesFromOneToAnother();
        hasNotEnded();
        frozenCannotBeStruckOut();
        frozenIsWrittenAnewInItsFormOnly();
        anAuditHolds();
        oneProofOfTwoForms();
        freezesThoughItDoesNotHold();
        sumsUpToOne();
        fiveHundredAndTwelveCalls();
        Check.close("LedgerBoundaryTest");
    }

    private static Story entries(int count) {
        Story story = new Story();
        for (int i = 0; i < count; i++) {
            story.post("a+" + (i + 1));
        }
        return story;
    }

    // "No entries, no rules, no audits, an empty draft."
    private static void aNewObject() {
        Story none = new Story();
        none.answers("entries", 0, Postlint::entries);
        none.answers("signs", 0, Postlint::clear);
        none.answers("the first sign", 1, p -> p.type('a'));
        none.answers("the first rule", 0, p -> p.rule(Postlint.BALANCED, 0, 0, 0));
        none.answers("sum up to none", 0, p -> p.sum(Postlint.NONE, 0));
        none.refuses("length", INDEX, p -> p.length(0, 0));
        none.refuses("audit", INDEX, p -> p.audit(0, 0));
        none.refuses("doubted", INDEX, p -> p.doubted(0));
        none.refusesAsked("holds", INDEX, p -> p.holds(0));
        new Story().type("a+1").answers("the first entry", 0, Postlint::post);
        Story.of("a+1").answers("the first audit", 0, p -> p.audit(0, 0));
    }

    // "Entries are numbered from 0 as they are posted, at most 24." "or there are 24 entries"
    private static void atMostTwentyFourEntries() {
        for (int count : new int[] {0, 1, 22, 23}) {
            entries(count).type("b+1").answers("post behind " + count, count, Postlint::post);
            entries(count).answers("entries " + count, count, Postlint::entries);
        }
        entries(24).answers("entries 24", 24, Postlint::entries);
        entries(24).answers("the last one gets", 24, p -> p.gets(23, 0));
        entries(24).type("b+1").refuses("post the 25th", STATE, Postlint::post);
        entries(24).refuses("post the 25th, an empty draft", STATE, Postlint::post);
        entries(24).type("b*").refuses("post the 25th, a faulty draft", STATE, Postlint::post);
        entries(24).strike(23).type("b+1").refuses("post the 25th, one struck out", STATE, Postlint::post);
        Story refused = entries(24).type("b+1").then(p -> Check.outcome(p::post).length());
        refused.refuses("post the 25th again", STATE, Postlint::post);
        refused.answers("the draft of the 25th", 3, Postlint::clear);
        refused.says("write by it", true, p -> p.write(23));
        Story refusedOnce = Story.of("a+1").type("b*").then(p -> Check.outcome(p::post).length());
        refusedOnce.then(Postlint::clear).type("b+1").answers("the number behind a refused one", 1, Postlint::post);
    }

    // "What was posted can be written anew: the draft becomes its text."
    private static void whatWasPostedCanBeWrittenAnew() {
        for (int entry : new int[] {0, 1, 2}) {
            Story story = Story.of("a+1", "b+1", "c+1").write(entry, " (d+04)x1 ");
            for (int other = 0; other <= 2; other++) {
                String due = other == entry ? " (d+04)x1 " : new String[] {"a+1", "b+1", "c+1"}[other];
                Check.equal("text of " + other + " behind write", story.textOf(other, Postlint.AS_TYPED), due);
                String form = other == entry ? "d+4" : due;
                Check.equal("form of " + other + " behind write", story.textOf(other, Postlint.WRITTEN), form);
            }
            story.answers("entries stay", 3, Postlint::entries);
        }
        entries(24).type("b+1").says("write the last of 24", true, p -> p.write(23));
        entries(24).type("b+1").refusesAsked("write behind the last of 24", INDEX, p -> p.write(24));
        // "Returns whether its written form is another one then."
        String[] forms = {"(a+1)", "a+01", "a-1", "b+1", "a+2", "a+1 a+1", "(a+1)x2", "a+11"};
        boolean[] another = {false, false, true, true, true, true, true, true};
        for (int i = 0; i < forms.length; i++) {
            Story.of("a+1").type(forms[i]).says("write " + forms[i], another[i], p -> p.write(0));
        }
        Story.of("a+1 b+1").type("b+1 a+1").says("write in another order", true, p -> p.write(0));
        Story.of("a+1 b+1").type("a+1").says("write the beginning alone", true, p -> p.write(0));
        Story.of("a+0").type("a-0").says("write -0", true, p -> p.write(0));
        Story.of("(a+1)x2").type("a+1 a+1").says("write the spread text", true, p -> p.write(0));
        Story.of("((a+1)x2)x3").type("(a+1)x6").says("write the written form", false, p -> p.write(0));
    }

    private static void proofs(Story story, String... written) {
        for (int entry = 0; entry < written.length; entry++) {
            int e = entry;
            int due = Check.chain(java.util.Arrays.copyOf(written, entry + 1));
            story.answers("proof of " + entry, due, p -> p.proof(e));
            story.answers("proof anew of " + entry, due, p -> p.proofAnew(e));
        }
        story.refuses("proof behind the last one", INDEX, p -> p.proof(written.length));
        story.refuses("proof anew behind the last one", INDEX, p -> p.proofAnew(written.length));
    }

    // "found from that of the one before (0 for the first one): 17 more than it; then for each sign .. 31 times it"
    private static void proofFromZero() {
        int due = ((17 * 31 + 'a') * 31 + '+') * 31 + '0';
        Story.of("a+0").answers("proof of a+0 alone", due, p -> p.proof(0));
        Story.of("a+0").answers("proof anew of a+0 alone", due, p -> p.proofAnew(0));
        Story.of("a+0").strike(0).answers("proof of - alone", 17 * 31 + '-', p -> p.proof(0));
        Story struck = Story.of("a+0", "b+0").strike(0).strike(1);
        struck.answers("proof of - behind -", (17 * 31 + '-' + 17) * 31 + '-', p -> p.proof(1));
        proofs(Story.of("a+1"), "a+1");
        proofs(Story.of(" a+01  (b-00)x1", "(c+1)x2"), "a+1 b-0", "(c+1)x2");
        Story many = entries(24);
        String[] written = new String[24];
        for (int i = 0; i < 24; i++) {
            written[i] = "a+" + (i + 1);
        }
        proofs(many, written);
    }

    // "all as an int, with overflow": 5 signs behind 17 stay below 2^31, 6 do not.
    private static void proofWithOverflow() {
        Story.of("h-999").answers("the last one below", wrapped("h-999"), p -> p.proof(0));
        Check.yes("5 signs stay below", exact("h-999").bitLength() <= 31);
        Check.yes("7 signs do not", exact("a+0 a+0").bitLength() > 31);
        for (String text : new String[] {"a+0 a+0", "(a+0)x2", "a+1 b+1", "(h-999 g-998)x9", "(f+1 e+2 d+3)x4 c-5 b-6"}) {
            Story story = Story.of(text);
            story.answers("proof of " + text, wrapped(text), p -> p.proof(0));
            story.answers("proof anew of " + text, wrapped(text), p -> p.proofAnew(0));
        }
    }

    private static java.math.BigInteger exact(String written) {
        java.math.BigInteger proof = java.math.BigInteger.valueOf(17);
        for (char sign : written.toCharArray()) {
            proof = proof.multiply(java.math.BigInteger.valueOf(31)).add(java.math.BigInteger.valueOf(sign));
        }
        return proof;
    }

    private static int wrapped(String written) {
        return exact(written).intValue();
    }

    // The 17 more than Integer.MAX_VALUE - 17 are the greatest int, 17 more than the next one the least.
    private static void proofWithOverflowInTheSeventeen() {
        int[] proofs = {Integer.MAX_VALUE - 18, Integer.MAX_VALUE - 17, Integer.MAX_VALUE - 16, -18, -17};
        String[] texts = {"g-88 b-834 a+2", "g-88 b-834 a+3", "g-88 b-834 a+4", "g-879 e-34 a+2", "g-879 e-34 a+3"};
        for (int i = 0; i < texts.length; i++) {
            Story story = Story.of(texts[i], "b+1").strike(1);
            story.answers("proof of " + texts[i], proofs[i], p -> p.proof(0));
            int due = 31 * (proofs[i] + 17) + '-';
            story.answers("proof behind " + texts[i], due, p -> p.proof(1));
            story.answers("proof anew behind " + texts[i], due, p -> p.proofAnew(1));
            story.audit(1, 1).says("an audit of it holds", true, p -> p.holds(0));
        }
    }

    // "The proof of an entry is found, by the written forms of now"
    private static void proofByTheWrittenFormsOfNow() {
        Story story = Story.of("a+1", "b+1", "c+1");
        proofs(story, "a+1", "b+1", "c+1");
        story.write(1, "(b+1)x1");
        proofs(story, "a+1", "b+1", "c+1");
        story.write(1, "b+2");
        proofs(story, "a+1", "b+2", "c+1");
        story.strike(0);
        proofs(story, "-", "b+2", "c+1");
        story.write(2, "c+0");
        proofs(story, "-", "b+2", "c+0");
        story.write(0, "a+001");
        proofs(story, "a+1", "b+2", "c+0");
    }

    // "An entry can be struck out: its written form is "-" then, .. and its text in all forms, too"
    private static void struckOutIsWrittenAsMinus() {
        Story story = Story.of("a+1", " (b+01)x2 ", "c+1").strike(1);
        for (int form = 0; form <= 2; form++) {
            int f = form;
            Check.equal("struck out, form " + form, story.textOf(1, form), "-");
            story.answers("its length in form " + form, 1, p -> p.length(1, f));
            story.answers("behind it in form " + form, Postlint.NONE, p -> p.signAt(1, f, 1));
            Check.equal("the one ahead in form " + form, story.textOf(0, form), "a+1");
            Check.equal("the one behind in form " + form, story.textOf(2, form), "c+1");
        }
        story.answers("entries stay", 3, Postlint::entries);
        new Story().type("-").answers("a typed - is no text", 0, Postlint::fault);
        Story.of("a+1").strike(0).type("-").refusesAsked("write by a typed -", STATE, p -> p.write(0));
    }

    // "which counts as nothing"
    private static void struckOutCountsAsNothing() {
        Story story = Story.of("a+5 h-7", "a+2").strike(0);
        story.answers("a gets", 0, p -> p.gets(0, 0));
        story.answers("h gets", 0, p -> p.gets(0, 7));
        story.answers("a has", 0, p -> p.sum(0, 0));
        story.answers("a has behind it", 2, p -> p.sum(1, 0));
        story.answers("h has behind it", 0, p -> p.sum(1, 7));
    }

    // "it can be written anew, and is not struck out then"
    private static void struckOutCanBeWrittenAnew() {
        Story story = Story.of("a+1", "b+1").strike(0);
        story.refuses("strike again", STATE, p -> p.strike(0));
        story.type("a+1").says("write as it was", true, p -> p.write(0));
        story.then(p -> p.write(0) ? 1 : 0).answers("it gets again", 1, p -> p.gets(0, 0));
        Check.equal("its text again", story.textOf(0, Postlint.AS_TYPED), "a+1");
        Check.equal("its postings again", story.textOf(0, Postlint.SPREAD), "a+1");
        story.answers("strike it again", 1, p -> p.strike(0));
        story.answers("strike the other one", 1, p -> p.strike(1));
        Story refused = Story.of("a+1").strike(0).type("a+");
        refused.refusesAsked("write it by a faulty draft", STATE, p -> p.write(0));
    }

    // "Returns how many entries are not struck out then."
    private static void howManyAreNotStruckOut() {
        Story.of("a+1").answers("strike the only one", 0, p -> p.strike(0));
        Story.of("a+1", "b+1").answers("strike one of two", 1, p -> p.strike(0));
        Story.of("a+1", "b+1").strike(0).answers("strike the other one", 0, p -> p.strike(1));
        entries(24).answers("strike the last of 24", 23, p -> p.strike(23));
        entries(24).answers("strike the first of 24", 23, p -> p.strike(0));
        entries(24).strike(0).answers("strike one more of 24", 22, p -> p.strike(23));
    }

    private static Story rules(int count) {
        Story story = Story.of("a+1");
        for (int i = 0; i < count; i++) {
            story.rule(Postlint.AT_MOST, 0, 0, i % 2);
        }
        return story;
    }

    // "Rules are numbered from 0, at most 8" "ISE if there are 8"
    private static void atMostEightRules() {
        for (int count : new int[] {0, 1, 6, 7}) {
            rules(count).answers("a rule behind " + count, count, p -> p.rule(0, 0, 0, 0));
        }
        rules(8).refuses("the 9th rule", STATE, p -> p.rule(0, 0, 0, 0));
        rules(8).answers("the 8th one doubts", 0, p -> p.doubted(7));
        rules(8).takeBack(7).refuses("the 9th rule, one taken back", STATE, p -> p.rule(0, 0, 0, 0));
        rules(8).takeBack(0).refuses("the 9th rule, the first taken back", STATE, p -> p.rule(0, 0, 0, 0));
        rules(7).takeBack(6).answers("the 8th rule, one taken back", 7, p -> p.rule(0, 0, 0, 0));
        rules(8).refuses("no such kind, 8 rules", ARGUMENT, p -> p.rule(4, 0, 0, 0));
        Story refused = rules(7).then(p -> Check.outcome(() -> p.rule(4, 0, 0, 0)).length());
        refused.answers("the number behind a refused one", 7, p -> p.rule(0, 0, 0, 0));
    }

    private static void doubts(String text, int kind, int account, int other, int number, boolean due) {
        Story story = Story.of(text).rule(kind, account, other, number);
        String what = text + " by rule " + kind + " " + account + " " + other + " " + number;
        story.answers("doubts of " + what, due ? 1 : 0, p -> p.doubts(0));
        story.answers("doubted " + what, due ? 1 : 0, p -> p.doubted(0));
        Story early = new Story().rule(kind, account, other, number).post(text);
        early.answers("posted behind the rule: " + what, due ? 1 : 0, p -> p.doubts(0));
    }

    // "BALANCED: the amounts of the entry, together, are 0."
    private static void balanced() {
        String[] balanced = {"a+0", "a-0 h+0", "a+1 b-1", "a+1 a-1", "(a+1 b-1)x9", "(a+1)x2 b-2", "a+999 b-500 h-499",
            "((a+100)x2)x5 (b-999) c-1", "a+1 b+2 c+3 d-6"};
        String[] oneMore = {"a+1", "a-1 h+2", "a+2 b-1", "a+2 a-1", "(a+1 b-1)x9 c+1", "(a+1)x2 b-1", "a+999 b-499 h-499",
            "((a+100)x2)x5 b-999", "a+1 b+2 c+3 d-5"};
        String[] oneLess = {"a-1", "a-1 h+0", "a+0 b-1", "a+1 a-2", "(a+1 b-1)x9 c-1", "(a+1)x2 b-3", "a+999 b-500 h-500",
            "((a+100)x2)x5 b-999 c-2", "a+1 b+2 c+3 d-7"};
        for (int i = 0; i < balanced.length; i++) {
            doubts(balanced[i], Postlint.BALANCED, 0, 0, 0, false);
            doubts(oneMore[i], Postlint.BALANCED, 0, 0, 0, true);
            doubts(oneLess[i], Postlint.BALANCED, 0, 0, 0, true);
        }
        // Neither the accounts nor the number count for it.
        doubts("a+1 b-1", Postlint.BALANCED, 0, 1, 5, false);
        doubts("a+5", Postlint.BALANCED, 0, 1, 5, true);
    }

    // "AT_MOST: what the account gets by the entry is at most the number, and at least the opposite of it."
    private static void atMostTheNumber() {
        doubts("c+4", Postlint.AT_MOST, 2, 0, 5, false);
        doubts("c+5", Postlint.AT_MOST, 2, 0, 5, false);
        doubts("c+6", Postlint.AT_MOST, 2, 0, 5, true);
        doubts("c-4", Postlint.AT_MOST, 2, 0, 5, false);
        doubts("c-5", Postlint.AT_MOST, 2, 0, 5, false);
        doubts("c-6", Postlint.AT_MOST, 2, 0, 5, true);
        doubts("c+0", Postlint.AT_MOST, 2, 0, 0, false);
        doubts("c+1", Postlint.AT_MOST, 2, 0, 0, true);
        doubts("c-1", Postlint.AT_MOST, 2, 0, 0, true);
        doubts("a+1", Postlint.AT_MOST, 2, 0, 0, false);
        doubts("h+999", Postlint.AT_MOST, 7, 0, 999, false);
        doubts("h+998", Postlint.AT_MOST, 7, 0, 999, false);
        doubts("h+999 h+1", Postlint.AT_MOST, 7, 0, 999, true);
        doubts("h-999", Postlint.AT_MOST, 7, 0, 999, false);
        doubts("(h-500)x2", Postlint.AT_MOST, 7, 0, 999, true);
        doubts("a+3 a+2", Postlint.AT_MOST, 0, 0, 5, false);
        doubts("(a+3)x2", Postlint.AT_MOST, 0, 0, 5, true);
        doubts("a+9 a-4", Postlint.AT_MOST, 0, 0, 5, false);
        doubts("a+9 b-9", Postlint.AT_MOST, 0, 1, 5, true);
        // It looks at this entry alone.
        Story two = Story.of("a+5", "a+5").rule(Postlint.AT_MOST, 0, 0, 5);
        two.answers("at most, each for itself", 0, p -> p.doubts(1));
    }

    // "WITH: if the entry has the account, in whichever posting, it has the other one."
    private static void withTheOtherOne() {
        doubts("a+1 b+1", Postlint.WITH, 0, 1, 0, false);
        doubts("b+1 a+1", Postlint.WITH, 0, 1, 0, false);
        doubts("a+1", Postlint.WITH, 0, 1, 0, true);
        doubts("b+1", Postlint.WITH, 0, 1, 0, false);
        doubts("c+1", Postlint.WITH, 0, 1, 0, false);
        doubts("a+0", Postlint.WITH, 0, 1, 0, true);
        doubts("a+1 b+0", Postlint.WITH, 0, 1, 0, false);
        doubts("a+1 a-1", Postlint.WITH, 0, 1, 0, true);
        doubts("a+1 b+1 b-1", Postlint.WITH, 0, 1, 0, false);
        doubts("c+1 ((d+1 a+1)x2)x2", Postlint.WITH, 0, 1, 0, true);
        doubts("c+1 ((d+1 a+1)x2 b+1)x2", Postlint.WITH, 0, 1, 0, false);
        doubts("h+1", Postlint.WITH, 7, 0, 0, true);
        doubts("h+1 a+1", Postlint.WITH, 7, 0, 0, false);
        doubts("g+1 h+1", Postlint.WITH, 7, 6, 999, false);
        doubts("a+1", Postlint.WITH, 7, 6, -999, false);
        // The other one must stand in this entry.
        Story two = Story.of("b+1", "a+1", "b+1").rule(Postlint.WITH, 0, 1, 0);
        two.answers("with, by the entries beside it", 1, p -> p.doubts(1));
    }

    // "STAYS: the account, by this entry and all ahead of it, is at least the number."
    private static void staysAtLeastTheNumber() {
        int[] numbers = {-999, -1, 0, 1, 999};
        String[] below = {"(a-500)x2", "a-2", "a-1", "a+0", "a+998"};
        String[] on = {"a-999", "a-1", "a-0", "a+1", "a+999"};
        String[] above = {"a-998", "a-0", "a+1", "a+2", "(a+500)x2"};
        for (int i = 0; i < numbers.length; i++) {
            doubts(below[i], Postlint.STAYS, 0, 0, numbers[i], true);
            doubts(on[i], Postlint.STAYS, 0, 0, numbers[i], false);
            doubts(above[i], Postlint.STAYS, 0, 0, numbers[i], false);
        }
        doubts("h+1", Postlint.STAYS, 7, 0, 1, false);
        doubts("a+1", Postlint.STAYS, 7, 0, 1, true);
        doubts("a+1", Postlint.STAYS, 7, 0, 0, false);
    }

    private static void staysByAllAhead() {
        Story story = Story.of("a+2", "a+3", "a-1", "a+9").rule(Postlint.STAYS, 0, 0, 5);
        int[] due = {1, 0, 1, 0};
        for (int i = 0; i < due.length; i++) {
            int entry = i;
            story.answers("stays 5: doubts of " + i, due[i], p -> p.doubts(entry));
        }
        story.answers("stays 5: doubted", 2, p -> p.doubted(0));
        story.write(0, "a+3").answers("one more ahead", 0, p -> p.doubts(2));
        story.write(0, "a+1").answers("one less ahead", 1, p -> p.doubts(1));
        story.answers("what stands behind counts not", 1, p -> p.doubts(0));
        story.strike(3).answers("struck out it is doubted", 1, p -> p.doubts(3));
    }

    // "An entry that is struck out is doubted by no rule but STAYS."
    private static void doubtedByNoRuleButStays() {
        Story story = Story.of("a+5", "a+5").rule(Postlint.BALANCED, 0, 0, 0).rule(Postlint.AT_MOST, 0, 0, 0);
        story.rule(Postlint.WITH, 0, 1, 0).rule(Postlint.STAYS, 0, 0, 6).rule(Postlint.STAYS, 0, 0, 5);
        story.rule(Postlint.STAYS, 0, 0, 0).rule(Postlint.STAYS, 0, 0, 1);
        story.answers("ahead of the strike", 1 + 2 + 4 + 8, p -> p.doubts(0));
        story.strike(0);
        story.answers("struck out, the first one", 8 + 16 + 64, p -> p.doubts(0));
        story.answers("the one behind it", 1 + 2 + 4 + 8, p -> p.doubts(1));
        story.write(0, "a+5 b-5").strike(1);
        story.answers("struck out, the last one", 8, p -> p.doubts(1));
        story.answers("the one ahead of it", 2 + 8, p -> p.doubts(0));
    }

    // "Returns a bit for each rule, that of 0 lowest."
    private static void oneBitForEachRule() {
        for (int doubting = 0; doubting < 8; doubting++) {
            Story story = Story.of("a+1");
            for (int rule = 0; rule < 8; rule++) {
                story.rule(Postlint.AT_MOST, 0, 0, rule == doubting ? 0 : 1);
            }
            story.answers("the bit of " + doubting, 1 << doubting, p -> p.doubts(0));
        }
        Story all = Story.of("a+1");
        for (int rule = 0; rule < 8; rule++) {
            all.rule(Postlint.BALANCED, 0, 0, 0);
        }
        all.answers("all 8 bits", 255, p -> p.doubts(0));
        Story.of("a+1").answers("no rule, no bit", 0, p -> p.doubts(0));
    }

    // "Counts the entries that a rule doubts." "Returns how many; 0 if it was taken back."
    private static void countsTheEntriesThatARuleDoubts() {
        for (int count : new int[] {0, 1, 2, 23, 24}) {
            Story story = entries(count).rule(Postlint.BALANCED, 0, 0, 0);
            story.answers("doubted of " + count, count, p -> p.doubted(0));
            story.answers("take back a rule that doubts " + count, count, p -> p.takeBack(0));
            story.takeBack(0).answers("doubted, taken back, of " + count, 0, p -> p.doubted(0));
        }
        Story some = Story.of("a+1", "a+1 b-1", "b+1", "b-1 c+1").rule(Postlint.BALANCED, 0, 0, 0);
        some.answers("doubted of some", 2, p -> p.doubted(0));
        some.answers("take back a rule that doubts some", 2, p -> p.takeBack(0));
        some.strike(0).answers("one of them struck out", 1, p -> p.doubted(0));
        some.answers("take it back then", 1, p -> p.takeBack(0));
    }

    // "A rule can be taken back: it doubts nothing any more." "ISE if it was taken back"
    private static void aRuleCanBeTakenBack() {
        for (int kind = Postlint.BALANCED; kind <= Postlint.STAYS; kind++) {
            Story story = Story.of("a+5", "a+5").rule(kind, 0, 1, kind == Postlint.STAYS ? 999 : 0);
            story.answers("doubted by kind " + kind, 2, p -> p.doubted(0));
            story.takeBack(0).answers("doubts, taken back, kind " + kind, 0, p -> p.doubts(0));
            story.answers("doubted, taken back, kind " + kind, 0, p -> p.doubted(0));
            story.refuses("take back again, kind " + kind, STATE, p -> p.takeBack(0));
            story.post("a+5").answers("a later entry, kind " + kind, 0, p -> p.doubts(2));
        }
        Story two = Story.of("a+5").rule(Postlint.BALANCED, 0, 0, 0).rule(Postlint.BALANCED, 0, 0, 0).takeBack(0);
        two.answers("the other one goes on", 2, p -> p.doubts(0));
        two.answers("the other one can be taken back", 1, p -> p.takeBack(1));
        two.takeBack(1).refuses("each only once", STATE, p -> p.takeBack(1));
    }

    private static Story audits(int count) {
        Story story = Story.of("a+1", "b+1");
        for (int i = 0; i < count; i++) {
            story.audit(0, i % 2);
        }
        return story;
    }

    // "audits are numbered from 0, at most 6" "ISE if there are 6"
    private static void atMostSixAudits() {
        for (int count : new int[] {0, 1, 4, 5}) {
            audits(count).answers("an audit behind " + count, count, p -> p.audit(0, 0));
        }
        audits(6).refuses("the 7th audit", STATE, p -> p.audit(0, 0));
        audits(6).says("the 6th one holds", true, p -> p.holds(5));
        audits(6).end(5).refuses("the 7th audit, one ended", STATE, p -> p.audit(0, 0));
        audits(6).end(0).refuses("the 7th audit, the first ended", STATE, p -> p.audit(0, 1));
        audits(5).end(4).answers("the 6th audit, one ended", 5, p -> p.audit(0, 0));
        audits(6).refuses("no such entry, 6 audits", INDEX, p -> p.audit(0, 2));
        audits(6).refuses("backwards, 6 audits", ARGUMENT, p -> p.audit(1, 0));
        Story refused = audits(5).then(p -> Check.outcome(() -> p.audit(1, 0)).length());
        refused.answers("the number behind a refused one", 5, p -> p.audit(0, 0));
    }

    // "An audit freezes the entries from one to another one"
    private static void freezesFromOneToAnother() {
        for (int from = 0; from < 4; from++) {
            for (int to = from; to < 4; to++) {
                Story story = Story.of("a+1", "b+1", "c+1", "d+1").audit(from, to);
                for (int entry = 0; entry < 4; entry++) {
                    int e = entry;
                    boolean due = from <= entry && entry <= to;
                    story.says("audit " + from + " " + to + " freezes " + entry, due, p -> p.isFrozen(e));
                }
            }
        }
        Story apart = Story.of("a+1", "b+1", "c+1", "d+1").audit(0, 0).audit(3, 3);
        apart.says("ahead of the gap", true, p -> p.isFrozen(0));
        apart.says("in the gap", false, p -> p.isFrozen(1));
        apart.says("in the gap, its end", false, p -> p.isFrozen(2));
        apart.says("behind the gap", true, p -> p.isFrozen(3));
        Story last = entries(24).audit(23, 23);
        last.says("the last of 24", true, p -> p.isFrozen(23));
        last.says("the one ahead of it", false, p -> p.isFrozen(22));
        Story.of("a+1").audit(0, 0).post("b+1").says("one posted behind the audit", false, p -> p.isFrozen(1));
    }

    // "It can be ended." "Returns whether some audit that has not ended freezes it." "ISE if it has ended"
    private static void hasNotEnded() {
        Story one = Story.of("a+1", "b+1").audit(0, 1);
        one.says("end it", true, p -> p.end(0));
        one.end(0).says("ended, it freezes nothing", false, p -> p.isFrozen(0));
        one.refusesAsked("end again", STATE, p -> p.end(0));
        one.says("ended, it holds", true, p -> p.holds(0));
        one.says("ended, the last one is free", false, p -> p.isFrozen(1));
        Story two = Story.of("a+1", "b+1", "c+1").audit(0, 1).audit(1, 2).end(0);
        two.says("the first of two ended: 0", false, p -> p.isFrozen(0));
        two.says("the first of two ended: 1", true, p -> p.isFrozen(1));
        two.says("the first of two ended: 2", true, p -> p.isFrozen(2));
        two.end(1).says("both ended", false, p -> p.isFrozen(1));
        two.refusesAsked("end the other one again", STATE, p -> p.end(1));
        Story all = audits(6);
        for (int audit = 0; audit < 5; audit++) {
            all.end(audit).says("frozen still", true, p -> p.isFrozen(1));
        }
        all.end(5).says("all 6 ended", false, p -> p.isFrozen(1));
    }

    // "An entry that an audit that has not ended freezes cannot be struck out" "ISE if it is struck out, or frozen"
    private static void frozenCannotBeStruckOut() {
        Story story = Story.of("a+1", "b+1", "c+1", "d+1").audit(1, 2);
        story.answers("strike ahead of the frozen ones", 3, p -> p.strike(0));
        story.refuses("strike the first frozen one", STATE, p -> p.strike(1));
        story.refuses("strike the last frozen one", STATE, p -> p.strike(2));
        story.answers("strike behind the frozen ones", 3, p -> p.strike(3));
        story.end(0).answers("strike one that was frozen", 3, p -> p.strike(1));
        Story struck = Story.of("a+1", "b+1").strike(0).audit(0, 0);
        struck.refuses("strike one struck out and frozen", STATE, p -> p.strike(0));
        struck.end(0).refuses("strike one struck out", STATE, p -> p.strike(0));
    }

    // "and can be written anew only if its written form stays the same"
    private static void frozenIsWrittenAnewInItsFormOnly() {
        Story story = Story.of("a+1", "(b+1)x2", "c+1", "d+1").audit(1, 2);
        Story.of("a+1", "b+1").audit(1, 1).type("a+2").says("write ahead of it", true, p -> p.write(0));
        Story.of("a+1", "b+1").audit(0, 0).type("b+2").says("write behind it", true, p -> p.write(1));
        for (String same : new String[] {"(b+1)x2", " ( b+01 )x2", "((b+1)x2)x1", "((b+001))x2"}) {
            Story written = Story.of("a+1", "(b+1)x2").audit(1, 1);
            written.type(same).says("write in the same form: " + same, false, p -> p.write(1));
            Story done = Story.of("a+1", "(b+1)x2").audit(1, 1).write(1, same);
            Check.equal("its text is " + same, done.textOf(1, Postlint.AS_TYPED), same);
            done.says("it stays frozen", true, p -> p.isFrozen(1));
            done.says("the audit holds", true, p -> p.holds(0));
        }
        for (String other : new String[] {"(b+1)x3", "b+1 b+1", "(b+2)x2", "(b-1)x2", "(c+1)x2", "(b+1)x2 b+0", "b+2"}) {
            Story written = Story.of("a+1", "(b+1)x2").audit(1, 1).type(other);
            written.refusesAsked("write in another form: " + other, STATE, p -> p.write(1));
            written.end(0).says("when the audit has ended: " + other, true, p -> p.write(1));
        }
        story.type("b+9").refusesAsked("write the first frozen one", STATE, p -> p.write(1));
        story.refusesAsked("write the last frozen one", STATE, p -> p.write(2));
        story.says("write the one ahead", true, p -> p.write(0));
        story.says("write the one behind", true, p -> p.write(3));
        Story struck = Story.of("a+1").strike(0).audit(0, 0).type("a+1");
        struck.refusesAsked("write one struck out and frozen", STATE, p -> p.write(0));
        Story faulty = Story.of("a+1").audit(0, 0).type("a+1*");
        faulty.refusesAsked("write a frozen one by a faulty draft", STATE, p -> p.write(0));
    }

    // "An audit holds, if the proof of its last entry is what it keeps." "Returns whether it does, ended or not."
    private static void anAuditHolds() {
        Story story = Story.of("a+1", "b+1", "c+1", "d+1").audit(1, 2);
        story.says("it holds", true, p -> p.holds(0));
        story.write(3, "d+2").says("one behind it written anew", true, p -> p.holds(0));
        story.strike(3).says("one behind it struck out", true, p -> p.holds(0));
        story.write(0, "(a+1)").says("one ahead in the same form", true, p -> p.holds(0));
        story.write(0, "a+2").says("one ahead in another form", false, p -> p.holds(0));
        story.says("end it", false, p -> p.end(0));
        story.write(0, "a+1").says("as it was", true, p -> p.holds(0));
        story.strike(0).says("one ahead struck out", false, p -> p.holds(0));
        story.write(0, "a+1").end(0).says("ended, it holds", true, p -> p.holds(0));
        story.write(2, "c+2").says("ended, its last one written anew", false, p -> p.holds(0));
        story.write(2, "c+1").says("ended, its last one as it was", true, p -> p.holds(0));
        story.write(1, "b+2").says("ended, its first one written anew", false, p -> p.holds(0));
        story.strike(1).says("ended, its first one struck out", false, p -> p.holds(0));
        story.refusesAsked("end again", STATE, p -> p.end(0));
        Story kept = Story.of("a+1", "b+1").write(0, "a+2").audit(1, 1).write(0, "a+1");
        kept.says("it keeps the proof of its beginning", false, p -> p.holds(0));
        kept.audit(1, 1).says("a later one keeps that of then", true, p -> p.holds(1));
        kept.says("the first one does not hold still", false, p -> p.holds(0));
    }

    // "what an account has by all entries up to one, that one, too" "entry: its number, or NONE for none"
    private static void sumsUpToOne() {
        Story story = Story.of("a+1 h-4", "(a+2)x3", "a-10 h+1");
        int[] ofA = {0, 1, 7, -3};
        int[] ofH = {0, -4, -4, -3};
        for (int entry = Postlint.NONE; entry < 3; entry++) {
            int e = entry;
            story.answers("a up to " + entry, ofA[entry + 1], p -> p.sum(e, 0));
            story.answers("h up to " + entry, ofH[entry + 1], p -> p.sum(e, 7));
            story.answers("c up to " + entry, 0, p -> p.sum(e, 2));
        }
        story.refuses("sum behind the last one", INDEX, p -> p.sum(3, 0));
        story.refuses("sum below none", INDEX, p -> p.sum(-2, 0));
        Story most = new Story();
        for (int i = 0; i < 20; i++) {
            most.post("((h-999)x6)x9 (h-999)x6");
        }
        most.answers("the least sum of 20", -20 * 60 * 999, p -> p.sum(19, 7));
    }

    // The proof is an int, so two written forms may have one proof: the form tells whether it is another one.
    private static void oneProofOfTwoForms() {
        String one = "c-132 e+210 c-687";
        String other = "h-587 c-575 c-295";
        Check.equal("both have one proof", Check.chain(one), Check.chain(other));
        Story.of(one).type(other).says("write the other form", true, p -> p.write(0));
        Story frozen = Story.of(one).audit(0, 0).type(other);
        frozen.refusesAsked("write a frozen one in the other form", STATE, p -> p.write(0));
        Story ahead = Story.of(one, "b+1").audit(1, 1).write(0, other);
        ahead.says("the audit holds by the proof", true, p -> p.holds(0));
        ahead.says("end it", true, p -> p.end(0));
        Story ended = Story.of(one, "b+1").audit(0, 0).end(0).write(0, other);
        ended.says("ended, it holds by the proof", true, p -> p.holds(0));
        ended.write(0, "c-132 e+210 c-686").says("one more and it does not", false, p -> p.holds(0));
    }

    private static void freezesThoughItDoesNotHold() {
        Story story = Story.of("a+1", "b+1").audit(1, 1).write(0, "a+2");
        story.says("it does not hold", false, p -> p.holds(0));
        story.says("it freezes still", true, p -> p.isFrozen(1));
        story.refuses("strike what it freezes", STATE, p -> p.strike(1));
        story.type("b+2").refusesAsked("write what it freezes", STATE, p -> p.write(1));
    }

    // "An object is used for at most 512 calls after it has been made": the last ones answer as the first ones.
    private static void fiveHundredAndTwelveCalls() {
        for (int last : new int[] {511, 512}) {
            Story story = Story.of("a+1").rule(Postlint.BALANCED, 0, 0, 0).audit(0, 0);
            for (int call = 7; call < last; call++) {
                story.then(Postlint::entries);
            }
            story.answers("call " + last + ": doubts", 1, p -> p.doubts(0));
            story.answers("call " + last + ": proof", Check.chain("a+1"), p -> p.proof(0));
            story.answers("call " + last + ": type", 1, p -> p.type('a'));
            story.answers("call " + last + ": audit", 1, p -> p.audit(0, 0));
        }
    }
}
