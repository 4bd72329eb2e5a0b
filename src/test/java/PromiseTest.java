/** For each promise of the document: ordinary inputs, the edges that it names, and wrong inputs. */
public final class PromiseTest {
    private static final Class<IllegalStateException> STATE = IllegalStateException.class;
    private static final Class<IllegalArgumentException> ARGUMENT = IllegalArgumentException.class;
    private static final Class<IndexOutOfBoundsException> INDEX = IndexOutOfBoundsException.class;
    private static final int[] OUTSIDE = {Integer.MIN_VALUE, -2, -1, 99, Integer.MAX_VALUE};

    public static void main(String[] args) {
        constants();
        promise1NewObject();
        promise2Type();
        promise3Clear();
        promise4Fault();
        promise4EverySign();
        promise5Post();
        promise6Write();
        promise6WriteFrozen();
        promise7Strike();
        promise8Rule();
        promise9TakeBack();
        promise10Audit();
        promise11End();
        promise12Entries();
        promise13SignAt();
        promise13WrittenForm();
        promise13Spread();
        promise14Length();
        promise15And16Proof();
        promise17Gets();
        promise18Sum();
        promise19Doubts();
        promise19DoubtsStays();
        promise20Doubted();
        promise21IsFrozen();
        promise22Holds();
        Check.close("PromiseTest");
    }

    private static void constants() {
        Check.equal("NONE", Postlint.NONE, -1);
        Check.equal("BALANCED", Postlint.BALANCED, 0);
        Check.equal("AT_MOST", Postlint.AT_MOST, 1);
        Check.equal("WITH", Postlint.WITH, 2);
        Check.equal("STAYS", Postlint.STAYS, 3);
        Check.equal("AS_TYPED", Postlint.AS_TYPED, 0);
        Check.equal("WRITTEN", Postlint.WRITTEN, 1);
        Check.equal("SPREAD", Postlint.SPREAD, 2);
    }

    private static void promise1NewObject() {
        Postlint p = new Postlint();
        Check.equal("new: entries", p.entries(), 0);
        Check.equal("new: clear", p.clear(), 0);
        Check.equal("new: fault", p.fault(), 0);
        Check.fails("new: post", STATE, p::post);
        Check.fails("new: proof", INDEX, () -> p.proof(0));
        Check.fails("new: doubted", INDEX, () -> p.doubted(0));
        Check.fails("new: holds", INDEX, () -> p.holds(0) ? 1 : 0);
        Postlint other = Check.with("a+1");
        other.rule(0, 0, 0, 0);
        Check.equal("another object is its own", p.entries(), 0);
        Check.fails("another object's rules are its own", INDEX, () -> p.doubted(0));
    }

    private static void promise2Type() {
        Postlint p = new Postlint();
        Check.equal("type 32", p.type(32), 1);
        Check.equal("type 126", p.type(126), 2);
        for (int sign : new int[] {31, 127, 0, -1, 256 + 97, Integer.MIN_VALUE, Integer.MAX_VALUE}) {
            Check.fails("type " + sign, ARGUMENT, () -> p.type(sign));
        }
        Check.equal("type behind wrong signs", p.type('a'), 3);
        for (int i = 4; i <= 60; i++) {
            Check.equal("type up to 60", p.type('b'), i);
        }
        Check.fails("type the 61st", STATE, () -> p.type('b'));
        Check.fails("a wrong sign is named first", ARGUMENT, () -> p.type(31));
        Check.equal("nothing was added", p.clear(), 60);
    }

    private static void promise3Clear() {
        Postlint p = new Postlint();
        Check.type(p, "a+1 ");
        Check.equal("clear", p.clear(), 4);
        Check.equal("clear again", p.clear(), 0);
        Check.equal("type behind clear", p.type('a'), 1);
        Check.type(p, "+2");
        p.post();
        Check.equal("the cleared signs are gone", Check.text(p, 0, 0), "a+2");
    }

    private static void promise4Fault() {
        String[] faultless = {"a+1", "h-999", "  a+0  ", "a-000", "b+01 c-2", "(a+1)", "( a+1 )",
            "(  a+1   b+2 )x9", "(a+1)x1", "((((( a+1)))))", "(((((a+1)x2)x3)x4)x5)x6 ", "a+1   (b+2)   c+3",
            "(a+1) (b+1)", "(a+1)x2 (b+1)x3", "((a+1) (b+1)x2 )", "((a-0)x9)x9",
            "(((((a+1))))) (((((a+1)))))"};
        for (String text : faultless) {
            fault(text, Postlint.NONE);
        }
        Object[][] ends = {{"", 0}, {"   ", 3}, {"a", 1}, {"a+", 2}, {"(", 1}, {"(a+1", 4}, {"( a+1 ", 6},
            {"(a+1)x", 6}, {"a+1 b", 5}, {"((a+1)x2", 8}, {"(((((", 5}};
        for (Object[] row : ends) {
            fault((String) row[0], (Integer) row[1]);
        }
        Object[][] wrong = {{"i+1", 0}, {"A+1", 0}, {"`+1", 0}, {"+1", 0}, {"1", 0}, {")", 0}, {"x2", 0},
            {"a1", 1}, {"a +1", 1}, {"aa", 1}, {"a*1", 1}, {"a+ 1", 2}, {"a+-1", 2}, {"a+)", 2}, {"a+1234", 5},
            {"a+1b+1", 3}, {"a+1(b+1)", 3}, {"a+1)", 3}, {"a+1x2", 3}, {"a+1 x2", 4}, {"a+1 )", 4}, {"a+1,b+1", 3},
            {"()", 1}, {"(  )", 3}, {"(a+1)(b+1)", 5}, {"(a+1)b+1", 5}, {"(a+1) x2", 6}, {"(a+1)x0", 6},
            {"(a+1)x 2", 6}, {"(a+1)x12", 7}, {"(a+1)x2x3", 7}, {"(a+1)x2b+1", 7}, {"(a+1)x2(b+1)", 7}, {"(a+1)2", 5},
            {"(a+1))", 5}, {"(a+1)x2)", 7}, {"(a+1 ))", 6}, {"((((((", 5}, {"(((((a+1 (", 9}, {"a+12(", 4},
            {"a+123(", 5}, {"-", 0}, {"a+1 -", 4}, {"((a+1)x2x", 8}};
        for (Object[] row : wrong) {
            fault((String) row[0], (Integer) row[1]);
        }
        Postlint p = new Postlint();
        for (int i = 0; i < 59; i++) {
            p.type(' ');
        }
        p.type('a');
        Check.equal("a full draft that could go on", p.fault(), 60);
        Check.equal("fault changes nothing", p.fault(), 60);
        p.clear();
        Check.type(p, "((((a+1");
        Check.equal("the fault with groups open", p.fault(), 7);
        Check.equal("asked again", p.fault(), 7);
        p.clear();
        Check.type(p, "(a+1) ");
        Check.equal("the fault of the next draft", p.fault(), Postlint.NONE);
    }

    /** Each sign behind each beginning: those of the list go on, all others are the fault. */
    private static void promise4EverySign() {
        String[][] rows = {{"", " (abcdefgh"}, {"  ", " (abcdefgh"}, {"(", " (abcdefgh"}, {"a", "+-"}, {"a-", "0123456789"},
            {"a+1", " 0123456789"}, {"a+12", " 0123456789"}, {"a+123", " "}, {"(a+1", " )0123456789"}, {"(a+123", " )"},
            {"(a+1)", " x"}, {"(a+1)x", "123456789"}, {"(a+1)x2", " "}, {"((a+1)", " )x"}, {"((a+1)x2", " )"},
            {"a+1 ", " (abcdefgh"}, {"(a+1 ", " ()abcdefgh"}, {"(((((", " abcdefgh"}, {"(((((a+1 ", " )abcdefgh"},
            {"(((((a+1)", " )x"}, {"(((((a+1) ", " ()abcdefgh"}};
        for (String[] row : rows) {
            for (int sign = 32; sign <= 126; sign++) {
                Postlint p = new Postlint();
                Check.type(p, row[0]);
                p.type(sign);
                boolean isFault = p.fault() == row[0].length();
                boolean goesOn = row[1].indexOf(sign) >= 0;
                Check.yes("sign " + (char) sign + " behind '" + row[0] + "'", isFault != goesOn);
            }
        }
    }

    private static void fault(String text, int due) {
        Postlint p = new Postlint();
        Check.type(p, text);
        Check.equal("fault of '" + text + "'", p.fault(), due);
    }

    private static void promise5Post() {
        Postlint p = new Postlint();
        Check.equal("post", Check.post(p, "a+1"), 0);
        Check.equal("the draft is empty then", p.clear(), 0);
        Check.fails("post an empty draft", STATE, p::post);
        Check.type(p, "a+1 b");
        Check.fails("post a fault", STATE, p::post);
        Check.equal("the draft stays", p.clear(), 5);
        Check.equal("post 60 postings", Check.post(p, "((a+1)x5)x6 ((b+1)x5)x6"), 1);
        Check.type(p, "((a+1)x5)x6 ((b+1)x5)x6 c+0");
        Check.equal("61 postings are no fault", p.fault(), Postlint.NONE);
        Check.fails("post 61 postings", STATE, p::post);
        Check.equal("the draft of 61 stays", p.clear(), 27);
        Check.type(p, "(((((a+0)x9)x9)x9)x9)x9");
        Check.fails("post 59049 postings", STATE, p::post);
        p.clear();
        for (int i = 2; i < 24; i++) {
            Check.equal("post the next", Check.post(p, "a+1"), i);
        }
        Check.type(p, "a+1");
        Check.fails("post the 25th", STATE, p::post);
        Check.equal("24 entries stay", p.entries(), 24);
        Check.equal("the draft of the 25th stays", p.clear(), 3);
    }

    private static void promise6Write() {
        Postlint p = Check.with("(a+1 b-1)x2", "c+1");
        Check.no("write the same form", Check.write(p, 0, " ((a+01)  b-001)x2"));
        Check.equal("the text is the draft", Check.text(p, 0, Postlint.AS_TYPED), " ((a+01)  b-001)x2");
        Check.equal("the draft is empty then", p.clear(), 0);
        Check.yes("write another form", Check.write(p, 0, "(a+1 b-1)x3"));
        Check.equal("another form", Check.text(p, 0, Postlint.WRITTEN), "(a+1 b-1)x3");
        Check.equal("what it gets", p.gets(0, 1), -3);
        Check.yes("another account alone", Check.write(p, 1, "d+1"));
        Check.yes("another number alone", Check.write(p, 1, "d+2"));
        Check.yes("+0 is not -0", Check.write(p, 1, "c+0") && Check.write(p, 1, "c-0"));
        p.strike(1);
        Check.yes("write one that is struck out", Check.write(p, 1, "c-0"));
        Check.equal("it is not struck out then", p.strike(1), 1);
        Check.type(p, "a+1");
        for (int entry : OUTSIDE) {
            Check.fails("write entry " + entry, INDEX, () -> p.write(entry) ? 1 : 0);
        }
        Check.fails("write behind the last one", INDEX, () -> p.write(2) ? 1 : 0);
        Check.equal("the draft stays", p.clear(), 3);
        Check.fails("no entry is named ahead of a fault", INDEX, () -> p.write(2) ? 1 : 0);
        Check.fails("write an empty draft", STATE, () -> p.write(0) ? 1 : 0);
        Check.type(p, "a+1 )");
        Check.fails("write a fault", STATE, () -> p.write(0) ? 1 : 0);
        Check.equal("the faulty draft stays", p.clear(), 5);
        Check.type(p, "((a+1)x8)x8");
        Check.fails("write 64 postings", STATE, () -> p.write(0) ? 1 : 0);
        Check.equal("the entry stays", Check.text(p, 0, Postlint.WRITTEN), "(a+1 b-1)x3");
        Check.equal("entries stay", p.entries(), 2);
    }

    private static void promise6WriteFrozen() {
        Postlint p = Check.with("a+1", "b+1", "c+1");
        p.strike(2);
        p.audit(1, 2);
        Check.yes("write ahead of the frozen ones", Check.write(p, 0, "a+2"));
        Check.no("write a frozen one in another form", Check.write(p, 1, "(b+01)x1"));
        Check.equal("its text is the draft", Check.text(p, 1, Postlint.AS_TYPED), "(b+01)x1");
        Check.type(p, "b+2");
        Check.fails("write a frozen one as another", STATE, () -> p.write(1) ? 1 : 0);
        Check.fails("write a frozen one that is struck out", STATE, () -> p.write(2) ? 1 : 0);
        Check.equal("the draft stays", p.clear(), 3);
        Check.equal("the frozen text stays", Check.text(p, 1, Postlint.AS_TYPED), "(b+01)x1");
        p.end(0);
        Check.yes("write it when the audit has ended", Check.write(p, 1, "b+2"));
        Check.yes("write the other one then", Check.write(p, 2, "c+1"));
    }

    private static void promise7Strike() {
        Postlint p = Check.with("a+5", "b+1 a-7", "c+1");
        Check.equal("strike", p.strike(1), 2);
        for (int form = 0; form <= 2; form++) {
            Check.equal("text when struck out", Check.text(p, 1, form), "-");
        }
        Check.equal("it counts as nothing", p.gets(1, 0), 0);
        Check.equal("the sum goes past it", p.sum(2, 0), 5);
        Check.fails("strike again", STATE, () -> p.strike(1));
        Check.equal("entries stay", p.entries(), 3);
        Check.type(p, "d+1");
        Check.equal("strike leaves the draft", p.strike(0), 1);
        Check.equal("the draft", p.clear(), 3);
        p.audit(2, 2);
        Check.fails("strike a frozen one", STATE, () -> p.strike(2));
        Check.equal("it stays", Check.text(p, 2, Postlint.WRITTEN), "c+1");
        p.end(0);
        Check.equal("strike the last one", p.strike(2), 0);
        for (int entry : OUTSIDE) {
            Check.fails("strike entry " + entry, INDEX, () -> p.strike(entry));
        }
        Check.fails("strike behind the last one", INDEX, () -> p.strike(3));
        Check.yes("write anew", Check.write(p, 1, "b+1"));
        Check.equal("written anew it counts as left", p.strike(1), 0);
    }

    private static void promise8Rule() {
        Postlint p = new Postlint();
        int[][] wrong = {{-1, 0, 1, 0}, {4, 0, 1, 0}, {0, -1, 1, 0}, {0, 8, 1, 0}, {0, 0, -1, 0}, {1, 0, 8, 0},
            {3, 0, -1, 0}, {0, 0, 1, -1000}, {0, 0, 1, 1000}, {3, 0, 1, -1000}, {3, 0, 1, 1000}, {1, 0, 1, -1},
            {1, 0, 1, 1000}, {2, 3, 3, 0}, {2, 0, 1, 1000}, {2, 0, 1, -1000}, {Integer.MIN_VALUE, 0, 0, 0},
            {Integer.MAX_VALUE, 0, 0, 0}, {0, Integer.MIN_VALUE, 0, 0}, {0, 0, Integer.MAX_VALUE, 0},
            {0, 0, 0, Integer.MIN_VALUE}, {1, 0, 0, Integer.MAX_VALUE}};
        for (int[] row : wrong) {
            String what = "rule " + java.util.Arrays.toString(row);
            Check.fails(what, ARGUMENT, () -> p.rule(row[0], row[1], row[2], row[3]));
        }
        int[][] fine = {{0, 0, 0, -999}, {0, 7, 7, 999}, {1, 3, 3, 0}, {1, 0, 7, 999}, {2, 0, 7, -999}, {2, 7, 0, 999},
            {3, 5, 5, -999}};
        for (int i = 0; i < fine.length; i++) {
            Check.equal("rule " + i, p.rule(fine[i][0], fine[i][1], fine[i][2], fine[i][3]), i);
        }
        p.takeBack(0);
        Check.equal("rule 7", p.rule(3, 0, 0, 999), 7);
        Check.fails("a ninth rule, one taken back", STATE, () -> p.rule(0, 0, 0, 0));
        Check.fails("a wrong argument is named first", ARGUMENT, () -> p.rule(2, 1, 1, 0));
    }

    private static void promise9TakeBack() {
        Postlint p = Check.with("a+1", "b+1 a-1", "c+1");
        p.rule(Postlint.BALANCED, 0, 0, 0);
        p.rule(Postlint.WITH, 0, 1, 0);
        Check.equal("take back a rule that doubts two", p.takeBack(0), 2);
        Check.equal("it doubts nothing then", p.doubts(0), 2);
        Check.equal("it counts nothing then", p.doubted(0), 0);
        Check.fails("take back again", STATE, () -> p.takeBack(0));
        Check.equal("the other one goes on", p.doubted(1), 1);
        Check.equal("take back the other one", p.takeBack(1), 1);
        for (int rule : OUTSIDE) {
            Check.fails("take back rule " + rule, INDEX, () -> p.takeBack(rule));
        }
        Check.fails("take back behind the last one", INDEX, () -> p.takeBack(2));
        Check.equal("a rule that doubts none", p.takeBack(p.rule(Postlint.AT_MOST, 0, 0, 1)), 0);
    }

    private static void promise10Audit() {
        Postlint p = Check.with("a+1", "b+1", "c+1");
        Check.equal("audit one entry", p.audit(1, 1), 0);
        Check.equal("audit some", p.audit(0, 2), 1);
        for (int entry : OUTSIDE) {
            Check.fails("audit from " + entry, INDEX, () -> p.audit(entry, 2));
            Check.fails("audit to " + entry, INDEX, () -> p.audit(0, entry));
        }
        Check.fails("audit to behind the last one", INDEX, () -> p.audit(0, 3));
        Check.fails("audit from behind the last one", INDEX, () -> p.audit(3, 0));
        Check.fails("audit backwards", ARGUMENT, () -> p.audit(2, 1));
        p.end(0);
        for (int i = 2; i < 6; i++) {
            Check.equal("audit more", p.audit(2, 2), i);
        }
        Check.fails("a seventh audit, one ended", STATE, () -> p.audit(0, 0));
        Check.fails("backwards is named first", ARGUMENT, () -> p.audit(1, 0));
        Check.fails("no such entry is named first", INDEX, () -> p.audit(2, -1));
    }

    private static void promise11End() {
        Postlint p = Check.with("a+1", "b+1", "c+1");
        p.audit(1, 1);
        p.audit(1, 2);
        Check.yes("end one that holds", p.end(0));
        Check.fails("end again", STATE, () -> p.end(0) ? 1 : 0);
        Check.yes("the other one freezes on", p.isFrozen(1));
        Check.write(p, 0, "a+2");
        Check.no("end one that does not hold", p.end(1));
        Check.no("it freezes nothing then", p.isFrozen(1));
        for (int audit : OUTSIDE) {
            Check.fails("end audit " + audit, INDEX, () -> p.end(audit) ? 1 : 0);
        }
        Check.fails("end behind the last one", INDEX, () -> p.end(2) ? 1 : 0);
    }

    private static void promise12Entries() {
        Postlint p = Check.with("a+1", "b+1");
        Check.equal("entries", p.entries(), 2);
        p.strike(0);
        Check.equal("entries with one struck out", p.entries(), 2);
        Check.write(p, 0, "c+1");
        Check.equal("entries with one written anew", p.entries(), 2);
        Check.post(p, "d+1");
        Check.equal("entries with one more", p.entries(), 3);
    }

    private static void promise13SignAt() {
        Postlint p = Check.with(" a+010 ", "(b-2)x2");
        Check.equal("as typed, first", p.signAt(0, 0, 0), ' ');
        Check.equal("as typed, last", p.signAt(0, 0, 6), ' ');
        Check.equal("as typed, behind it", p.signAt(0, 0, 7), Postlint.NONE);
        Check.equal("written, a number", p.signAt(0, 1, 2), '1');
        Check.equal("written, behind it", p.signAt(0, 1, 4), Postlint.NONE);
        Check.equal("spread, between", p.signAt(1, 2, 3), ' ');
        Check.equal("spread, behind it", p.signAt(1, 2, 7), Postlint.NONE);
        for (int form = 0; form <= 2; form++) {
            int f = form;
            Check.equal("far behind", p.signAt(1, f, Integer.MAX_VALUE), Postlint.NONE);
            Check.fails("place below 0", INDEX, () -> p.signAt(1, f, -1));
            Check.fails("place far below 0", INDEX, () -> p.signAt(1, f, Integer.MIN_VALUE));
        }
        for (int entry : OUTSIDE) {
            Check.fails("signAt entry " + entry, INDEX, () -> p.signAt(entry, 0, 0));
            Check.fails("signAt entry is named first", INDEX, () -> p.signAt(entry, 3, 0));
        }
        for (int form : new int[] {-1, 3, Integer.MIN_VALUE, Integer.MAX_VALUE}) {
            Check.fails("signAt form " + form, ARGUMENT, () -> p.signAt(0, form, 0));
            Check.fails("the place is named first", INDEX, () -> p.signAt(0, form, -1));
        }
        Check.fails("signAt behind the last one", INDEX, () -> p.signAt(2, 0, 0));
    }

    private static void promise13WrittenForm() {
        String[][] rows = {{"a+1", "a+1"}, {"  a+1   b-2 ", "a+1 b-2"}, {"a+000 b-0 c-00 d+010 e-100 f+007",
            "a+0 b-0 c-0 d+10 e-100 f+7"}, {"(a+1)", "a+1"}, {"(a+1)x1", "a+1"}, {"( a+1  b+2 )x3", "(a+1 b+2)x3"},
            {"a+1 (b+1 c+1) d+1", "a+1 b+1 c+1 d+1"}, {"((a+1)x3)x3", "(a+1)x9"}, {"((a+1)x5)x2", "((a+1)x5)x2"},
            {"((a+1 b+1)x2)x4", "(a+1 b+1)x8"}, {"((a+1)x2 b+1)x2", "((a+1)x2 b+1)x2"},
            {"(a+1 (b+1)x2)x2", "(a+1 (b+1)x2)x2"}, {"((a+1)x2 (b+1)x2)x2", "((a+1)x2 (b+1)x2)x2"},
            {"(((a+1)x3)x2)x2", "((a+1)x6)x2"}, {"(((a+1)x2)x3)x2", "((a+1)x6)x2"}, {"(((a+1)x2)x2)x2", "(a+1)x8"},
            {"((((a+1)x2)x2)x2)x2", "((a+1)x8)x2"}, {"(((a+1)x5)x2)x4", "((a+1)x5)x8"},
            {"(((a+1)x1)x2)x3", "(a+1)x6"}, {"(((a+1)x2)x1)x3", "(a+1)x6"}, {"((((a+1)x2)))x4", "(a+1)x8"},
            {"(((((a+1)))))", "a+1"}, {"((a+1)x1 (b+1)x1)x2", "(a+1 b+1)x2"}, {"((a+1)x2 (b+1)x1)x2",
            "((a+1)x2 b+1)x2"}, {"((a+1) (b+1)) ((c+1))", "a+1 b+1 c+1"}, {"(a+1)x2 (a+1)x2", "(a+1)x2 (a+1)x2"},
            {"(((a+1)x2)x2 ((b+1)x2)x2)x3", "((a+1)x4 (b+1)x4)x3"}, {"((((a+0)x2)x2 b+0)x3)x3", "((a+0)x4 b+0)x9"}};
        for (String[] row : rows) {
            Postlint p = Check.with(row[0], row[1]);
            Check.equal("typed " + row[0], Check.text(p, 0, Postlint.AS_TYPED), row[0]);
            Check.equal("written " + row[0], Check.text(p, 0, Postlint.WRITTEN), row[1]);
            Check.equal("written again " + row[1], Check.text(p, 1, Postlint.WRITTEN), row[1]);
            Check.no("the written form is the same", Check.write(p, 1, row[0]));
        }
    }

    private static void promise13Spread() {
        String[][] rows = {{" a+010 ", "a+10"}, {"(a+1 b-02)x2", "a+1 a+1 b-2 b-2"},
            {"c+0 ((a+1)x2 b-00)x2", "c+0 a+1 a+1 a+1 a+1 b-0 b-0"}, {"((a+1)x1 b+1) c+1", "a+1 b+1 c+1"},
            {"(a+1)x2 b+1 (a+1)x1", "a+1 a+1 b+1 a+1"}, {"(h-123)x3", "h-123 h-123 h-123"}};
        for (String[] row : rows) {
            Check.equal("spread " + row[0], Check.text(Check.with(row[0]), 0, Postlint.SPREAD), row[1]);
        }
        Postlint p = Check.with("((a+100)x6)x9 (b-999)x6", "c+1");
        Check.equal("the longest spread text", p.length(0, Postlint.SPREAD), 359);
        Check.equal("its last sign", p.signAt(0, Postlint.SPREAD, 358), '9');
        Check.equal("its last account", p.signAt(0, Postlint.SPREAD, 354), 'b');
        Check.equal("behind it", p.signAt(0, Postlint.SPREAD, 359), Postlint.NONE);
        Check.equal("the next one's", Check.text(p, 1, Postlint.SPREAD), "c+1");
    }

    private static void promise14Length() {
        Postlint p = Check.with(" ((a+010)x3)x3 ");
        Check.equal("length as typed", p.length(0, 0), 15);
        Check.equal("length written", p.length(0, 1), 8);
        Check.equal("length spread", p.length(0, 2), 44);
        p.strike(0);
        for (int form = 0; form <= 2; form++) {
            Check.equal("length when struck out", p.length(0, form), 1);
        }
        for (int entry : OUTSIDE) {
            Check.fails("length of entry " + entry, INDEX, () -> p.length(entry, 0));
            Check.fails("length: the entry is named first", INDEX, () -> p.length(entry, 3));
        }
        Check.fails("length behind the last one", INDEX, () -> p.length(1, 0));
        for (int form : new int[] {-1, 3, Integer.MIN_VALUE, Integer.MAX_VALUE}) {
            Check.fails("length in form " + form, ARGUMENT, () -> p.length(0, form));
        }
    }

    private static void promise15And16Proof() {
        Postlint p = Check.with("a+010 ((b-2 c-3)x1)x2", " h-999 ", "(c+1)x4");
        proofs(p, "a+10 (b-2 c-3)x2", "h-999", "(c+1)x4");
        Check.write(p, 1, "(h-999)");
        proofs(p, "a+10 (b-2 c-3)x2", "h-999", "(c+1)x4");
        Check.write(p, 0, "a+1");
        proofs(p, "a+1", "h-999", "(c+1)x4");
        p.strike(1);
        proofs(p, "a+1", "-", "(c+1)x4");
        Check.write(p, 1, "b+00");
        proofs(p, "a+1", "b+0", "(c+1)x4");
        Check.equal("a proof in numbers", Check.with("a+010 ((b-2 c-3)x1)x2").proof(0), 1069927829);
    }

    private static void proofs(Postlint p, String... written) {
        for (int i = 0; i < written.length; i++) {
            int due = Check.chain(java.util.Arrays.copyOf(written, i + 1));
            Check.equal("proof of " + i, p.proof(i), due);
            Check.equal("proof anew of " + i, p.proofAnew(i), due);
        }
        for (int entry : OUTSIDE) {
            Check.fails("proof of " + entry, INDEX, () -> p.proof(entry));
            Check.fails("proof anew of " + entry, INDEX, () -> p.proofAnew(entry));
        }
        Check.fails("proof behind the last one", INDEX, () -> p.proof(written.length));
        Check.fails("proof anew behind the last one", INDEX, () -> p.proofAnew(written.length));
    }

    private static void promise17Gets() {
        Postlint p = Check.with("a+1 b-20 (a+300 (b-4)x3 h+999)x2 a-7", "c+0 (h-999)x9");
        Check.equal("a gets", p.gets(0, 0), 1 + 600 - 7);
        Check.equal("b gets", p.gets(0, 1), -20 - 24);
        Check.equal("h gets", p.gets(0, 7), 1998);
        Check.equal("c gets", p.gets(0, 2), 0);
        Check.equal("c gets 0", p.gets(1, 2), 0);
        Check.equal("h gets less than nothing", p.gets(1, 7), -8991);
        for (int outside : new int[] {-1, 8, Integer.MIN_VALUE, Integer.MAX_VALUE}) {
            Check.fails("what account " + outside + " gets", ARGUMENT, () -> p.gets(0, outside));
        }
        for (int entry : OUTSIDE) {
            Check.fails("gets by entry " + entry, INDEX, () -> p.gets(entry, 0));
            Check.fails("gets: the entry is named first", INDEX, () -> p.gets(entry, 8));
        }
        Check.fails("gets behind the last one", INDEX, () -> p.gets(2, 0));
        p.strike(0);
        Check.equal("struck out, it gives nothing", p.gets(0, 7), 0);
    }

    private static void promise18Sum() {
        Postlint p = Check.with("a+1 b+5", "(a+2)x3", "a-10");
        Check.equal("sum up to none", p.sum(Postlint.NONE, 0), 0);
        Check.equal("sum up to 0", p.sum(0, 0), 1);
        Check.equal("sum up to 1", p.sum(1, 0), 7);
        Check.equal("sum up to 2", p.sum(2, 0), -3);
        Check.equal("sum of b", p.sum(2, 1), 5);
        p.strike(1);
        Check.equal("sum past one struck out", p.sum(2, 0), -9);
        Check.write(p, 1, "a+100");
        Check.equal("sum with one written anew", p.sum(2, 0), 91);
        Check.equal("sum ahead of it", p.sum(0, 0), 1);
        for (int entry : new int[] {-2, 3, Integer.MIN_VALUE, Integer.MAX_VALUE}) {
            Check.fails("sum up to " + entry, INDEX, () -> p.sum(entry, 0));
            Check.fails("sum: the entry is named first", INDEX, () -> p.sum(entry, -1));
        }
        for (int account : new int[] {-1, 8, Integer.MIN_VALUE, Integer.MAX_VALUE}) {
            Check.fails("sum of account " + account, ARGUMENT, () -> p.sum(0, account));
            Check.fails("sum of account up to none", ARGUMENT, () -> p.sum(Postlint.NONE, account));
        }
    }

    private static void promise19Doubts() {
        Postlint p = Check.with("a+4 (b-2)x2", "a+5 b+0", "c-5 (a-0)x2", "d+1");
        p.rule(Postlint.BALANCED, 0, 0, 0);
        p.rule(Postlint.AT_MOST, 0, 0, 4);
        p.rule(Postlint.AT_MOST, 2, 0, 4);
        p.rule(Postlint.WITH, 0, 1, 0);
        p.rule(Postlint.WITH, 1, 0, 0);
        Check.equal("balanced, at most, with", p.doubts(0), 0);
        Check.equal("more than at most", p.doubts(1), 1 + 2);
        Check.equal("less than at most, not with", p.doubts(2), 1 + 4 + 8);
        Check.equal("not balanced", p.doubts(3), 1);
        p.strike(2);
        Check.equal("struck out", p.doubts(2), 0);
        Check.write(p, 0, "b+1");
        Check.equal("written anew", p.doubts(0), 1 + 16);
        p.rule(Postlint.AT_MOST, 3, 0, 1);
        p.rule(Postlint.AT_MOST, 3, 0, 0);
        Check.equal("a new rule doubts an old entry", p.doubts(3), 1 + 64);
        Check.post(p, "d+7");
        p.rule(Postlint.BALANCED, 0, 0, 0);
        Check.equal("a rule doubts a new entry", p.doubts(4), 1 + 32 + 64 + 128);
        for (int entry : OUTSIDE) {
            Check.fails("doubts of entry " + entry, INDEX, () -> p.doubts(entry));
        }
        Check.fails("doubts behind the last one", INDEX, () -> p.doubts(5));
    }

    private static void promise19DoubtsStays() {
        Postlint p = Check.with("a+5", "b+1", "a-6", "a+1");
        p.rule(Postlint.STAYS, 0, 0, 0);
        p.rule(Postlint.STAYS, 0, 0, 5);
        p.rule(Postlint.STAYS, 2, 0, -1);
        int[] due = {0, 0, 3, 2};
        for (int i = 0; i < due.length; i++) {
            Check.equal("stays: doubts of " + i, p.doubts(i), due[i]);
        }
        p.strike(2);
        Check.equal("stays: struck out, by the sum", p.doubts(2), 0);
        p.strike(0);
        Check.equal("stays doubts one that is struck out", p.doubts(0), 2);
        Check.equal("stays: the last one", p.doubts(3), 2);
        Check.write(p, 1, "a-5");
        Check.equal("stays: written anew ahead", p.doubts(3), 3);
        Check.equal("stays: none ahead", p.doubts(0), 2);
    }

    private static void promise20Doubted() {
        Postlint p = new Postlint();
        p.rule(Postlint.BALANCED, 0, 0, 0);
        Check.equal("doubted of no entries", p.doubted(0), 0);
        Check.post(p, "a+1");
        Check.post(p, "a+1 b-1");
        Check.post(p, "a-1");
        p.rule(Postlint.STAYS, 0, 0, 2);
        Check.equal("doubted", p.doubted(0), 2);
        Check.equal("doubted by stays", p.doubted(1), 2);
        p.strike(0);
        Check.equal("doubted when one is struck out", p.doubted(0), 1);
        Check.equal("doubted by stays then", p.doubted(1), 3);
        p.takeBack(1);
        Check.equal("doubted by one taken back", p.doubted(1), 0);
        for (int rule : OUTSIDE) {
            Check.fails("doubted by rule " + rule, INDEX, () -> p.doubted(rule));
        }
        Check.fails("doubted behind the last one", INDEX, () -> p.doubted(2));
    }

    private static void promise21IsFrozen() {
        Postlint p = Check.with("a+1", "b+1", "c+1", "d+1", "e+1");
        Check.no("frozen by none", p.isFrozen(0));
        p.audit(1, 3);
        p.audit(3, 4);
        boolean[] both = {false, true, true, true, true};
        boolean[] second = {false, false, false, true, true};
        for (int i = 0; i < 5; i++) {
            Check.equal("frozen by both: " + i, p.isFrozen(i) ? 1 : 0, both[i] ? 1 : 0);
        }
        p.end(0);
        for (int i = 0; i < 5; i++) {
            Check.equal("frozen by the second: " + i, p.isFrozen(i) ? 1 : 0, second[i] ? 1 : 0);
        }
        Check.post(p, "f+1");
        Check.no("a new one is not frozen", p.isFrozen(5));
        for (int entry : OUTSIDE) {
            Check.fails("frozen entry " + entry, INDEX, () -> p.isFrozen(entry) ? 1 : 0);
        }
        Check.fails("frozen behind the last one", INDEX, () -> p.isFrozen(6) ? 1 : 0);
    }

    private static void promise22Holds() {
        Postlint p = Check.with("a+1", "b+1", "c+1");
        p.audit(1, 1);
        p.audit(0, 0);
        p.end(1);
        Check.yes("holds", p.holds(0));
        Check.yes("holds, ended", p.holds(1));
        Check.write(p, 2, "c+2");
        Check.yes("holds when one behind it is another", p.holds(0));
        Check.write(p, 0, "(a+1)");
        Check.yes("holds when only the text is another", p.holds(0));
        Check.write(p, 0, "a+2");
        Check.no("holds not when one ahead is another", p.holds(0));
        Check.no("ended, it holds not either", p.holds(1));
        Check.write(p, 0, "a+1");
        Check.yes("holds again", p.holds(0));
        Check.yes("ended, it holds again", p.holds(1));
        p.strike(0);
        Check.no("holds not when one ahead is struck out", p.holds(0));
        for (int audit : OUTSIDE) {
            Check.fails("holds audit " + audit, INDEX, () -> p.holds(audit) ? 1 : 0);
        }
        Check.fails("holds behind the last one", INDEX, () -> p.holds(2) ? 1 : 0);
    }
}
