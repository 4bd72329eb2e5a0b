/**
 * The boundaries of each call's arguments, promise by promise: what is due on them, one step inside and one step outside;
 * that a refused call changes nothing; and that of several exceptions the one that is named first is thrown.
 */
public final class ArgumentBoundaryTest {
    private static final Class<IllegalStateException> STATE = IllegalStateException.class;
    private static final Class<IllegalArgumentException> ARGUMENT = IllegalArgumentException.class;
    private static final Class<IndexOutOfBoundsException> INDEX = IndexOutOfBoundsException.class;
    private static final int LEAST = Integer.MIN_VALUE;
    private static final int MOST = Integer.MAX_VALUE;

    public static void main(String[] args) {
        eachCallNeedsAnEntry();
        eachCallOfManyEntriesNeedsOne();
        write();
        strike();
        kindOfRule();
        accountsOfRule();
        bothAccountsTheSame();
        numberOfRule();
        ruleNamedFirst();
        numbersOfRules();
        entriesOfAudit();
        numbersOfAudits();
        signAtForm();
        signAtPlace();
        lengthForm();
        getsAccount();
        sumEntryAndAccount();
        Check.close("ArgumentBoundaryTest");
    }

    /** Something of everything: entries, one of them struck out and one frozen, rules, audits, and a draft. */
    private static Story ledger() {
        Story story = Story.of("a+5 b-5", "(a+2)x3", " c-07 ").rule(Postlint.BALANCED, 0, 0, 0);
        story.rule(Postlint.STAYS, 0, 0, 6).takeBack(0).rule(Postlint.AT_MOST, 0, 0, 5);
        return story.audit(0, 0).audit(1, 1).end(0).strike(2).type("d+1 ");
    }

    private interface EntryCall {
        long on(Postlint p, int entry);
    }

    private static final EntryCall[] OF_AN_ENTRY = {
        (p, entry) -> p.write(entry) ? 1 : 0,
        Postlint::strike,
        (p, entry) -> p.audit(entry, entry),
        (p, entry) -> p.audit(0, entry),
        (p, entry) -> p.audit(entry, 0),
        (p, entry) -> p.signAt(entry, 0, 0),
        (p, entry) -> p.signAt(entry, 1, 0),
        (p, entry) -> p.signAt(entry, 2, 0),
        (p, entry) -> p.length(entry, 0),
        (p, entry) -> p.length(entry, 1),
        (p, entry) -> p.length(entry, 2),
        Postlint::proof,
        Postlint::proofAnew,
        (p, entry) -> p.gets(entry, 0),
        Postlint::doubts,
        (p, entry) -> p.isFrozen(entry) ? 1 : 0};

    // "IndexOutOfBoundsException if there is no such entry"
    private static void eachCallNeedsAnEntry() {
        for (int i = 0; i < OF_AN_ENTRY.length; i++) {
            EntryCall call = OF_AN_ENTRY[i];
            for (int entry : new int[] {-1, -2, 3, 4, 24, LEAST, MOST}) {
                ledger().refuses("call " + i + " of entry " + entry, INDEX, p -> call.on(p, entry));
            }
            for (int entry : new int[] {-1, 0, 1}) {
                new Story().refuses("call " + i + " of entry " + entry + " of none", INDEX, p -> call.on(p, entry));
            }
            Story one = Story.of("a+1").type("b+1");
            accepted("call " + i + " of the only entry", one, p -> call.on(p, 0));
            one.refuses("call " + i + " behind the only entry", INDEX, p -> call.on(p, 1));
        }
    }

    private static void eachCallOfManyEntriesNeedsOne() {
        Story all = new Story();
        for (int i = 0; i < 24; i++) {
            all.post("a+1");
        }
        all.type("b+1");
        for (int i = 0; i < OF_AN_ENTRY.length; i++) {
            EntryCall call = OF_AN_ENTRY[i];
            accepted("call " + i + " of the first of 24", all, p -> call.on(p, 0));
            accepted("call " + i + " of the last but one of 24", all, p -> late(p, call, 22));
            accepted("call " + i + " of the last of 24", all, p -> late(p, call, 23));
            all.refuses("call " + i + " behind 24", INDEX, p -> call.on(p, 24));
        }
    }

    /** An audit from a late entry to the first one is refused for another reason, so it runs to the entry itself. */
    private static long late(Postlint p, EntryCall call, int entry) {
        return call == OF_AN_ENTRY[4] ? p.audit(entry, entry) : call.on(p, entry);
    }

    private static void accepted(String what, Story story, Story.Call call) {
        Postlint p = story.play();
        Check.no(what, Check.outcome(() -> call.on(p)).startsWith("throws"));
    }

    private static void write() {
        for (int entry : new int[] {-1, 3}) {
            // The missing entry is named ahead of the draft's faults.
            ledger().type("*").refusesAsked("write " + entry + ", a fault", INDEX, p -> p.write(entry));
            Story many = ledger().then(Postlint::clear).type("((a+1)x9)x9");
            many.refusesAsked("write " + entry + ", 81 postings", INDEX, p -> p.write(entry));
            ledger().then(Postlint::clear).refusesAsked("write " + entry + ", empty", INDEX, p -> p.write(entry));
        }
        ledger().type("*").refusesAsked("write by a fault", STATE, p -> p.write(0));
        ledger().refusesAsked("write a frozen one", STATE, p -> p.write(1));
        ledger().says("write one", true, p -> p.write(0));
        ledger().says("write one that is struck out", true, p -> p.write(2));
        ledger().then(p -> p.write(0) ? 1 : 0).answers("the draft is empty then", 0, Postlint::clear);
    }

    private static void strike() {
        ledger().answers("strike one", 1, p -> p.strike(0));
        ledger().refuses("strike a frozen one", STATE, p -> p.strike(1));
        ledger().refuses("strike one that is struck out", STATE, p -> p.strike(2));
        ledger().refuses("strike behind the last one", INDEX, p -> p.strike(3));
        ledger().then(p -> p.strike(0)).answers("the draft stays", 4, Postlint::clear);
    }

    // "kind: BALANCED to STAYS"
    private static void kindOfRule() {
        for (int kind = 0; kind <= 3; kind++) {
            int k = kind;
            ledger().answers("rule of kind " + kind, 3, p -> p.rule(k, 0, 1, 0));
        }
        for (int kind : new int[] {-1, 4, -2, 5, LEAST, MOST}) {
            ledger().refuses("rule of kind " + kind, ARGUMENT, p -> p.rule(kind, 0, 1, 0));
        }
    }

    // "account: 0 to 7" "other: 0 to 7"
    private static void accountsOfRule() {
        for (int kind = 0; kind <= 3; kind++) {
            int k = kind;
            for (int account : new int[] {0, 1, 6, 7}) {
                ledger().answers("rule " + kind + " of " + account, 3, p -> p.rule(k, account, 4, 0));
                ledger().answers("rule " + kind + " with " + account, 3, p -> p.rule(k, 4, account, 0));
            }
            for (int account : new int[] {-1, 8, -2, 9, 'a', LEAST, MOST}) {
                ledger().refuses("rule " + kind + " of " + account, ARGUMENT, p -> p.rule(k, account, 4, 0));
                ledger().refuses("rule " + kind + " with " + account, ARGUMENT, p -> p.rule(k, 4, account, 0));
            }
        }
    }

    // "another one for WITH" "or for WITH both accounts are the same"
    private static void bothAccountsTheSame() {
        for (int account : new int[] {0, 1, 4, 6, 7}) {
            ledger().refuses("with itself " + account, ARGUMENT, p -> p.rule(Postlint.WITH, account, account, 0));
            int beside = account == 7 ? 6 : account + 1;
            ledger().answers("with another " + account, 3, p -> p.rule(Postlint.WITH, account, beside, 0));
            for (int kind : new int[] {Postlint.BALANCED, Postlint.AT_MOST, Postlint.STAYS}) {
                ledger().answers("kind " + kind + ", one account", 3, p -> p.rule(kind, account, account, 0));
            }
        }
    }

    // "number: -999 to 999, 0 or more for AT_MOST"
    private static void numberOfRule() {
        for (int kind : new int[] {Postlint.BALANCED, Postlint.WITH, Postlint.STAYS}) {
            for (int number : new int[] {-999, -998, -1, 0, 1, 998, 999}) {
                ledger().answers("rule " + kind + ", number " + number, 3, p -> p.rule(kind, 0, 1, number));
            }
            for (int number : new int[] {-1000, 1000, -1001, 1001, LEAST, MOST}) {
                ledger().refuses("rule " + kind + ", number " + number, ARGUMENT, p -> p.rule(kind, 0, 1, number));
            }
        }
        for (int number : new int[] {0, 1, 998, 999}) {
            ledger().answers("at most " + number, 3, p -> p.rule(Postlint.AT_MOST, 0, 1, number));
        }
        for (int number : new int[] {-1, -2, -999, -1000, 1000, 1001, LEAST, MOST}) {
            ledger().refuses("at most " + number, ARGUMENT, p -> p.rule(Postlint.AT_MOST, 0, 1, number));
        }
    }

    // "If several apply, the one that is named first in the throws clause is thrown."
    private static void ruleNamedFirst() {
        Story full = ledger();
        for (int rule = 3; rule < 8; rule++) {
            full.answers("rule " + rule, rule, p -> p.rule(0, 0, 0, 0)).rule(0, 0, 0, 0);
        }
        full.refuses("the 9th rule", STATE, p -> p.rule(0, 0, 0, 0));
        int[][] wrong = {{-1, 0, 1, 0}, {4, 0, 1, 0}, {0, -1, 1, 0}, {0, 8, 1, 0}, {0, 0, -1, 0}, {0, 0, 8, 0},
            {0, 0, 1, -1000}, {0, 0, 1, 1000}, {1, 0, 1, -1}, {2, 3, 3, 0}};
        for (int[] row : wrong) {
            String what = "the 9th rule " + java.util.Arrays.toString(row);
            full.refuses(what, ARGUMENT, p -> p.rule(row[0], row[1], row[2], row[3]));
        }
    }

    // takeBack and doubted: "IndexOutOfBoundsException if there is no such rule"
    private static void numbersOfRules() {
        for (int rule : new int[] {-1, -2, 3, 4, 8, LEAST, MOST}) {
            ledger().refuses("take back rule " + rule, INDEX, p -> p.takeBack(rule));
            ledger().refuses("doubted by rule " + rule, INDEX, p -> p.doubted(rule));
        }
        ledger().answers("take back the last rule", 1, p -> p.takeBack(2));
        ledger().answers("take back the one ahead of it", 1, p -> p.takeBack(1));
        ledger().refuses("take back the first one again", STATE, p -> p.takeBack(0));
        ledger().answers("doubted by the last rule", 1, p -> p.doubted(2));
        ledger().answers("doubted by the first rule", 0, p -> p.doubted(0));
        Story full = ledger();
        for (int rule = 3; rule < 8; rule++) {
            full.rule(Postlint.WITH, 0, 1, 0);
        }
        full.answers("take back rule 7", 1, p -> p.takeBack(7));
        full.answers("doubted by rule 7", 1, p -> p.doubted(7));
        full.refuses("take back rule 8", INDEX, p -> p.takeBack(8));
        full.refuses("doubted by rule 8", INDEX, p -> p.doubted(8));
        for (int rule : new int[] {-1, 0, 1}) {
            Story.of("a+1").refuses("take back rule " + rule + " of none", INDEX, p -> p.takeBack(rule));
            Story.of("a+1").refuses("doubted by rule " + rule + " of none", INDEX, p -> p.doubted(rule));
        }
    }

    // "from: an entry" "to: the same one, or one behind it" "no such entry, of either" "if to is ahead of from"
    private static void entriesOfAudit() {
        for (int from = -1; from <= 3; from++) {
            for (int to = -1; to <= 3; to++) {
                int f = from;
                int t = to;
                String what = "audit " + from + " " + to;
                if (from == -1 || from == 3 || to == -1 || to == 3) {
                    ledger().refuses(what, INDEX, p -> p.audit(f, t));
                } else if (to < from) {
                    ledger().refuses(what, ARGUMENT, p -> p.audit(f, t));
                } else {
                    ledger().answers(what, 2, p -> p.audit(f, t));
                }
            }
        }
        for (int outside : new int[] {LEAST, MOST}) {
            ledger().refuses("audit from " + outside, INDEX, p -> p.audit(outside, 0));
            ledger().refuses("audit to " + outside, INDEX, p -> p.audit(0, outside));
            ledger().refuses("audit from and to " + outside, INDEX, p -> p.audit(outside, outside));
        }
        Story full = ledger().audit(0, 0).audit(0, 1).audit(0, 2).answers("audit 5", 5, p -> p.audit(2, 2)).audit(2, 2);
        full.refuses("the 7th audit", STATE, p -> p.audit(0, 0));
        full.refuses("the 7th audit, backwards", ARGUMENT, p -> p.audit(2, 1));
        full.refuses("the 7th audit, no such entry", INDEX, p -> p.audit(0, 3));
        full.refuses("the 7th audit, no such entry, backwards", INDEX, p -> p.audit(3, 2));
        full.refuses("the 7th audit, below the first entry", INDEX, p -> p.audit(2, -1));
    }

    // end and holds: "IndexOutOfBoundsException if there is no such audit"
    private static void numbersOfAudits() {
        for (int audit : new int[] {-1, -2, 2, 3, 6, LEAST, MOST}) {
            ledger().refusesAsked("end audit " + audit, INDEX, p -> p.end(audit));
            ledger().refusesAsked("holds audit " + audit, INDEX, p -> p.holds(audit));
        }
        ledger().says("end the last audit", true, p -> p.end(1));
        ledger().refusesAsked("end the first audit again", STATE, p -> p.end(0));
        ledger().says("holds the last audit", true, p -> p.holds(1));
        ledger().says("holds the first audit", true, p -> p.holds(0));
        Story full = ledger().audit(0, 0).audit(0, 1).audit(0, 2).audit(2, 2);
        full.says("end audit 5", true, p -> p.end(5));
        full.says("holds audit 5", true, p -> p.holds(5));
        full.refusesAsked("end audit 6", INDEX, p -> p.end(6));
        full.refusesAsked("holds audit 6", INDEX, p -> p.holds(6));
        for (int audit : new int[] {-1, 0, 1}) {
            Story.of("a+1").refusesAsked("end audit " + audit + " of none", INDEX, p -> p.end(audit));
            Story.of("a+1").refusesAsked("holds audit " + audit + " of none", INDEX, p -> p.holds(audit));
        }
    }

    private static final int[] NO_FORMS = {-1, 3, -2, 4, LEAST, MOST};

    // signAt: "IllegalArgumentException if form is out of range", behind "no such entry, or place is below 0"
    private static void signAtForm() {
        int[] due = {' ', 'c', 'c'};
        for (int form = Postlint.AS_TYPED; form <= Postlint.SPREAD; form++) {
            int f = form;
            Story.of("a+1", " c-07 ").answers("the first sign in form " + form, due[form], p -> p.signAt(1, f, 0));
        }
        for (int form : NO_FORMS) {
            ledger().refuses("signAt form " + form, ARGUMENT, p -> p.signAt(0, form, 0));
            ledger().refuses("signAt form " + form + ", struck out", ARGUMENT, p -> p.signAt(2, form, 0));
            ledger().refuses("signAt form " + form + ", far behind", ARGUMENT, p -> p.signAt(0, form, MOST));
            ledger().refuses("signAt form " + form + ", place -1", INDEX, p -> p.signAt(0, form, -1));
            ledger().refuses("signAt form " + form + ", entry 3", INDEX, p -> p.signAt(3, form, 0));
            ledger().refuses("signAt form " + form + ", entry -1, place -1", INDEX, p -> p.signAt(-1, form, -1));
        }
    }

    // "place: from 0" "Returns the code of the sign; NONE if there are not so many." "or place is below 0"
    private static void signAtPlace() {
        String[] texts = {" (a+01)x2 ", "(a+1)x2", "a+1 a+1"};
        for (int form = 0; form <= 2; form++) {
            int f = form;
            Story story = Story.of(texts[0], "b+1");
            int length = texts[form].length();
            story.answers("length in form " + form, length, p -> p.length(0, f));
            for (int place = 0; place < length; place++) {
                int at = place;
                story.answers("form " + form + ", place " + place, texts[form].charAt(place), p -> p.signAt(0, f, at));
            }
            for (int place : new int[] {length, length + 1, 59, 60, 61, 359, 360, 361, MOST}) {
                story.answers("form " + form + ", place " + place, -1, p -> p.signAt(0, f, place));
            }
            for (int place : new int[] {-1, -2, LEAST}) {
                story.refuses("form " + form + ", place " + place, INDEX, p -> p.signAt(0, f, place));
                story.refuses("entry 2, place " + place, INDEX, p -> p.signAt(2, f, place));
            }
            Story struck = Story.of(texts[0]).strike(0);
            struck.answers("struck out, place 0", '-', p -> p.signAt(0, f, 0));
            struck.answers("struck out, place 1", -1, p -> p.signAt(0, f, 1));
            struck.refuses("struck out, place -1", INDEX, p -> p.signAt(0, f, -1));
        }
    }

    // length: "form: AS_TYPED to SPREAD"
    private static void lengthForm() {
        int[] due = {10, 7, 7};
        for (int form = 0; form <= 2; form++) {
            int f = form;
            Story.of(" (a+01)x2 ").answers("length in form " + form, due[form], p -> p.length(0, f));
        }
        for (int form : NO_FORMS) {
            ledger().refuses("length in form " + form, ARGUMENT, p -> p.length(0, form));
            ledger().refuses("length in form " + form + ", struck out", ARGUMENT, p -> p.length(2, form));
            ledger().refuses("length in form " + form + ", entry 3", INDEX, p -> p.length(3, form));
            ledger().refuses("length in form " + form + ", entry -1", INDEX, p -> p.length(-1, form));
        }
    }

    private static final int[] NO_ACCOUNTS = {-1, 8, -2, 9, 'a', LEAST, MOST};

    // gets: "account: 0 to 7"
    private static void getsAccount() {
        Story story = Story.of("a+1 b+2 c+3 d+4 e-5 f-6 g-7 h-8", "b+9");
        int[] due = {1, 2, 3, 4, -5, -6, -7, -8};
        for (int account = 0; account < 8; account++) {
            int a = account;
            story.answers("what " + account + " gets", due[account], p -> p.gets(0, a));
            story.answers("what " + account + " gets by the next one", a == 1 ? 9 : 0, p -> p.gets(1, a));
        }
        for (int account : NO_ACCOUNTS) {
            ledger().refuses("what " + account + " gets", ARGUMENT, p -> p.gets(0, account));
            ledger().refuses("what " + account + " gets, struck out", ARGUMENT, p -> p.gets(2, account));
            ledger().refuses("what " + account + " gets by 3", INDEX, p -> p.gets(3, account));
            ledger().refuses("what " + account + " gets by -1", INDEX, p -> p.gets(-1, account));
        }
    }

    // sum: "entry: its number, or NONE for none" "account: 0 to 7"
    private static void sumEntryAndAccount() {
        Story story = Story.of("a+1 b+2 c+3 d+4 e-5 f-6 g-7 h-8", "b+9");
        int[] due = {1, 2, 3, 4, -5, -6, -7, -8};
        for (int account = 0; account < 8; account++) {
            int a = account;
            story.answers("sum of " + account + " up to none", 0, p -> p.sum(-1, a));
            story.answers("sum of " + account + " up to 0", due[account], p -> p.sum(0, a));
            story.answers("sum of " + account + " up to 1", due[account] + (a == 1 ? 9 : 0), p -> p.sum(1, a));
            new Story().answers("sum of " + account + " of no entries", 0, p -> p.sum(-1, a));
        }
        for (int entry : new int[] {-2, 3, -3, 4, 24, LEAST, MOST}) {
            ledger().refuses("sum up to " + entry, INDEX, p -> p.sum(entry, 0));
            ledger().refuses("sum up to " + entry + " of no account", INDEX, p -> p.sum(entry, 8));
        }
        new Story().refuses("sum up to 0 of no entries", INDEX, p -> p.sum(0, 0));
        for (int account : NO_ACCOUNTS) {
            ledger().refuses("sum of " + account, ARGUMENT, p -> p.sum(0, account));
            ledger().refuses("sum of " + account + " up to none", ARGUMENT, p -> p.sum(Postlint.NONE, account));
            new Story().refuses("sum of " + account + " of no entries", ARGUMENT, p -> p.sum(-1, account));
        }
    }
}
