/**
 * The boundaries of drafts and their texts: for each sentence of 'Entries' and of promises 2 to 4 that names one, what
 * is due on it, one step inside and one step outside. Above each method stands its sentence.
 */
public final class TextBoundaryTest {
    private static final Class<IllegalStateException> STATE = IllegalStateException.class;
    private static final Class<IllegalArgumentException> ARGUMENT = IllegalArgumentException.class;
    private static final int NONE = Postlint.NONE;

    public static void main(String[] args) {
        atMostSixtySigns();
        aFullDraftIsPosted();
        signs32To126();
        clearTellsHowManySigns();
        oneItemOrMore();
        oneBlankOrMoreBetween();
        blanksAheadAndBehind();
        blanksWithinGroups();
        noBlankWithinAnItem();
        lettersAToH();
        plusOrMinus();
        oneToThreeDigits();
        signsBesideTheDigits();
        zeroAheadAllowed();
        timesOneToNine();
        perhapsX();
        atMostFiveGroupsWithin();
        groupsOpenedAndClosed();
        theFirstSign();
        howeverLong();
        couldNotEndThere();
        alsoIfEmpty();
        noneIfItHasNone();
        Check.close("TextBoundaryTest");
    }

    private static void fault(String text, int due) {
        new Story().type(text).answers("fault of '" + text + "'", due, Postlint::fault);
    }

    private static void faultless(String... texts) {
        for (String text : texts) {
            fault(text, NONE);
        }
    }

    // "A draft is typed, at most 60 signs." "Returns how many signs it has then." "ISE if it has 60"
    private static void atMostSixtySigns() {
        new Story().answers("the first sign", 1, p -> p.type('a'));
        new Story().type("a").answers("the second sign", 2, p -> p.type('+'));
        new Story().type(Story.blanks(58)).answers("the 59th sign", 59, p -> p.type('a'));
        new Story().type(Story.blanks(59)).answers("the 60th sign", 60, p -> p.type('a'));
        new Story().type(Story.blanks(60)).refuses("the 61st sign, a blank", STATE, p -> p.type(' '));
        new Story().type(Story.blanks(57) + "a+1").refuses("the 61st sign, a digit", STATE, p -> p.type('2'));
        Story again = new Story().type(Story.blanks(60)).then(p -> Check.outcome(() -> p.type('a')).length());
        again.refuses("a sign refused twice", STATE, p -> p.type('a'));
        again.answers("60 signs stay", 60, Postlint::clear);
        again.then(Postlint::clear).answers("a sign when the full draft was emptied", 1, p -> p.type('a'));
        Story full = Story.of("a+1").type(Story.blanks(57) + "b+2");
        full.then(Postlint::post).answers("a sign when the full draft was posted", 1, p -> p.type('a'));
        full.then(p -> p.type('c')).answers("a sign behind it", 2, p -> p.type('+'));
        Story rewritten = Story.of("a+1").write(0, Story.blanks(57) + "b+2");
        rewritten.answers("a sign when the full draft was written", 1, p -> p.type('a'));
    }

    private static void aFullDraftIsPosted() {
        String full = "a+1" + Story.blanks(53) + "b+23";
        Check.equal("the draft is full", full.length(), 60);
        Check.equal("60 signs as typed", Story.of(full).textOf(0, Postlint.AS_TYPED), full);
        String less = full.substring(0, 59);
        Check.equal("59 signs as typed", Story.of(less).textOf(0, Postlint.AS_TYPED), less);
        Check.equal("60 signs written", Story.of(full).textOf(0, Postlint.WRITTEN), "a+1 b+23");
        String dense = "a+100 b+200 c+300 d+400 e+500 f+600 g+700 h+800 a-999 b-998";
        Check.equal("59 signs in written form", Story.of(dense).textOf(0, Postlint.WRITTEN), dense);
        String denser = "(a+100 b+200 c+300 d+400 e+500 f+600 g+700 h+800 a-99 b-9)x6";
        Check.equal("60 signs in written form", Story.of(denser).textOf(0, Postlint.WRITTEN), denser);
        Check.equal("all 60 signs typed", Story.of(denser).textOf(0, Postlint.AS_TYPED), denser);
        Story.of(full).answers("the last of 60 signs", '3', p -> p.signAt(0, Postlint.AS_TYPED, 59));
        Story.of(full).answers("none behind it", NONE, p -> p.signAt(0, Postlint.AS_TYPED, 60));
    }

    // "sign: 32 to 126" "IAE if sign is out of range"
    private static void signs32To126() {
        for (int sign : new int[] {32, 33, 125, 126}) {
            new Story().answers("type " + sign, 1, p -> p.type(sign));
            new Story().type("a+1 b").answers("type behind others " + sign, 6, p -> p.type(sign));
        }
        int[] outside = {31, 127, 30, 128, 0, -1, 10, 9, 256 + 'a', 65536 + 'a', 'a' - 256, Integer.MIN_VALUE,
            Integer.MAX_VALUE};
        for (int sign : outside) {
            new Story().refuses("type " + sign, ARGUMENT, p -> p.type(sign));
            Story.of("a+1").type("b+").refuses("type behind others " + sign, ARGUMENT, p -> p.type(sign));
            new Story().type(Story.blanks(59)).refuses("type as the 60th " + sign, ARGUMENT, p -> p.type(sign));
            // "If several apply, the one that is named first in the throws clause is thrown."
            new Story().type(Story.blanks(60)).refuses("type as the 61st " + sign, ARGUMENT, p -> p.type(sign));
        }
    }

    // "Empties the draft; returns how many signs it had."
    private static void clearTellsHowManySigns() {
        new Story().answers("clear an empty draft", 0, Postlint::clear);
        for (int count : new int[] {1, 2, 59, 60}) {
            Story story = new Story().type(Story.blanks(count));
            story.answers("clear " + count, count, Postlint::clear);
            story.then(Postlint::clear).answers("clear " + count + " again", 0, Postlint::clear);
            story.answers("fault of " + count + " cleared", 0, Postlint::fault);
        }
        Story.of("a+1").answers("clear what was posted", 0, Postlint::clear);
        Story.of("a+1").write(0, "a+2").answers("clear what was written", 0, Postlint::clear);
    }

    // "A text of an entry is one item or more", "a group, "(", one item or more as told, ")""
    private static void oneItemOrMore() {
        fault("", 0);
        fault(" ", 1);
        faultless("a+1", "a+1 b+1", "a+1 b+1 c+1");
        fault("()", 1);
        fault("( )", 2);
        fault("(  )x2", 3);
        fault("a+1 ()", 5);
        fault("(a+1 ())", 6);
        fault("(())", 2);
        faultless("(a+1)", "(a+1 b+1)", "(a+1 b+1 c+1)", "((a+1))", "((a+1) (b+1))", "((a+1) b+1 (c+1))");
    }

    // "with one blank or more between two"
    private static void oneBlankOrMoreBetween() {
        fault("a+1b+1", 3);
        fault("a+123b+1", 5);
        fault("a+1(b+1)", 3);
        fault("(a+1)b+1", 5);
        fault("(a+1)(b+1)", 5);
        fault("(a+1)x2b+1", 7);
        fault("(a+1)x2(b+1)", 7);
        fault("(a+1b+1)", 4);
        fault("(a+1(b+1))", 4);
        fault("((a+1)(b+1))", 6);
        fault("((a+1)x2(b+1))", 8);
        fault("((a+1)b+1)", 6);
        faultless("a+1 b+1", "a+1 (b+1)", "(a+1) b+1", "(a+1) (b+1)", "(a+1)x2 b+1", "(a+1)x2 (b+1)", "(a+1 b+1)",
            "(a+1 (b+1))", "((a+1) (b+1))", "((a+1)x2 (b+1))", "((a+1) b+1)");
        faultless("a+1  b+1", "a+1  (b+1)", "(a+1)  b+1", "(a+1)  (b+1)", "(a+1)x2  b+1", "(a+1  b+1)", "((a+1)  b+1)",
            "a+1" + Story.blanks(54) + "b+1");
    }

    // "as many blanks as one likes ahead of the first one, behind the last one"
    private static void blanksAheadAndBehind() {
        faultless("a+1", " a+1", "  a+1", Story.blanks(57) + "a+1");
        faultless("a+1 ", "a+1  ", "a+1" + Story.blanks(57), " a+1 ", Story.blanks(28) + "a+1" + Story.blanks(29));
        faultless(" (a+1)", "  (a+1)x2", "(a+1) ", "(a+1)x2 ", "(a+1)x2" + Story.blanks(53));
    }

    // "and within ( ) likewise"
    private static void blanksWithinGroups() {
        faultless("(a+1)", "( a+1)", "(  a+1)", "(a+1 )", "(a+1  )", "( a+1 )", "(  a+1  b+1  )", "( (a+1))",
            "((a+1) )", "( ( a+1 ) )x2", "((a+1)x2 )x3", "(" + Story.blanks(55) + "a+1)", "(a+1" + Story.blanks(55) + ")");
    }

    private static void noBlankWithinAnItem() {
        fault("a +1", 1);
        fault("a+ 1", 2);
        fault("a+1 2", 4);
        fault("a+12 3", 5);
        fault("(a+1) x2", 6);
        fault("(a+1)x 2", 6);
        fault("(a+1)x2 3", 8);
        fault("((a+1) x2)", 7);
    }

    // "an account, a letter a to h"
    private static void lettersAToH() {
        for (char account = 'a'; account <= 'h'; account++) {
            faultless(account + "+1", "(" + account + "-1)", "a+1 " + account + "+1");
        }
        for (char other : new char[] {'a' - 1, 'h' + 1, 'A', 'H', 'z', '@', 'I', '0', '+', '{'}) {
            fault(other + "+1", 0);
            fault("(" + other + "-1)", 1);
            fault("a+1 " + other + "+1", 4);
        }
    }

    // "then "+" or "-""
    private static void plusOrMinus() {
        faultless("a+1", "a-1", "(a+1 a-1)");
        for (char other : new char[] {'+' - 1, '+' + 1, '-' - 1, '-' + 1, ' ', '1', 'a', '(', ')', 'x'}) {
            fault("a" + other + "1", 1);
            fault("(b-1 a" + other + "1)", 6);
        }
        fault("a++1", 2);
        fault("a+-1", 2);
        fault("a-+1", 2);
    }

    // "then a number of 1 to 3 digits"
    private static void oneToThreeDigits() {
        fault("a+", 2);
        fault("a+ ", 2);
        fault("(a+)", 3);
        fault("a+b", 2);
        faultless("a+1", "a+12", "a+123", "a-999", "(a+1)", "(a+12)", "(a+123)", "a+1 ", "a+12 ", "a+123 ");
        fault("a+1234", 5);
        fault("a-0000", 5);
        fault("(a+1234)", 6);
        fault("b+1 a+1234", 9);
        fault("a+12345", 5);
    }

    private static void signsBesideTheDigits() {
        for (char digit = '0'; digit <= '9'; digit++) {
            faultless("a+" + digit, "a+1" + digit, "a+12" + digit);
        }
        for (char other : new char[] {'0' - 1, '9' + 1, 'a', '(', '+', 'x'}) {
            fault("a+" + other, 2);
            fault("a+1" + other, 3);
            fault("a+12" + other, 4);
            fault("a+123" + other, 5);
        }
    }

    // "(0 ahead allowed)"
    private static void zeroAheadAllowed() {
        faultless("a+0", "a+00", "a+000", "a+01", "a+001", "a+010", "a-012", "(a+000 b-001)x1");
        fault("a+0000", 5);
        fault("a+0001", 5);
    }

    // "and perhaps "x" and a digit 1 to 9"
    private static void timesOneToNine() {
        fault("(a+1)x0", 6);
        for (char times = '1'; times <= '9'; times++) {
            faultless("(a+1)x" + times, "((a+1)x" + times + ")", "(a+1)x" + times + " b+1", "(a+1)x" + times + " ");
        }
        for (char other : new char[] {'0' - 1, '0', '9' + 1, ' ', 'x', 'a', '-', '+', ')', '('}) {
            fault("(a+1)x" + other, 6);
            fault("((a+1)x" + other + ")", 7);
        }
        fault("(a+1)x10", 7);
        fault("(a+1)x01", 6);
        fault("(a+1)x99", 7);
        fault("(a+1)x2x2", 7);
        fault("((a+1)x22)", 8);
    }

    private static void perhapsX() {
        faultless("(a+1)", "(a+1) b+1", "((a+1))", "((a+1) b+1)x2");
        fault("(a+1)x", 6);
        fault("(a+1)2", 5);
        fault("(a+1)" + (char) ('x' - 1) + "2", 5);
        fault("(a+1)" + (char) ('x' + 1) + "2", 5);
        fault("(a+1)X2", 5);
        fault("(a+1)*2", 5);
        fault("x2", 0);
        fault("a+1x2", 3);
        fault("a+123x2", 5);
        fault("(x2", 1);
        fault("(a+1 x2)", 5);
    }

    // "at most 5 groups within one another"
    private static void atMostFiveGroupsWithin() {
        faultless("((((a+1))))", "(((((a+1)))))", "( ( ( ( ( a+1 ) ) ) ) )", "(((((a+1)x1)x1)x1)x1)x1");
        fault("((((((a+1))))))", 5);
        fault("((((((", 5);
        fault("(((((", 5);
        fault("((((( (a+1))))))", 6);
        fault("(((((a+1 (b+1))))))", 9);
        fault("a+1 ((((((b+1))))))", 9);
        faultless("(((((a+1 b+1)))))", "((((a+1 (b+1)))))", "a+1 (((((b+1)))))");
    }

    private static void groupsOpenedAndClosed() {
        faultless("(a+1) (b+1) (c+1) (d+1) (e+1) (f+1) (g+1)", "(((((a+1))))) (((((b+1)))))",
            "(((((a+1) (b+1)))) ((((c+1)))))", "((((a+1) (b+1) (c+1) (d+1) (e+1) (f+1))))");
        fault("(((((a+1) ((b+1))))))", 11);
        fault("(((((a+1))))) ((((((b+1))))))", 19);
        fault(")", 0);
        fault(" )", 1);
        fault("a+1)", 3);
        fault("a+1 )", 4);
        fault("(a+1))", 5);
        fault("(a+1) )", 6);
        fault("(a+1)x2)", 7);
        fault("(a+1)x2 )", 8);
        fault("(((((a+1))))))", 13);
        fault("((a+1)", 6);
        fault("((a+1))", NONE);
    }

    // "the index of the first sign with which no text of an entry of this form, however long, goes on"
    private static void theFirstSign() {
        fault("!", 0);
        fault("a!", 1);
        fault("!!", 0);
        fault("a+1 ! !", 4);
        fault("a+!+!", 2);
        fault("(a+1)x0 )", 6);
        fault(Story.blanks(59) + "!", 59);
        fault(Story.blanks(58) + "!a", 58);
        fault("!" + Story.blanks(59), 0);
        fault("a+1" + Story.blanks(56) + ")", 59);
        // A faulty draft is not mended by what is typed behind it.
        new Story().type("a*").answers("a fault, and a sign", 3, p -> p.type('+'));
        new Story().type("a*a+1").refuses("a fault, and a text behind it", STATE, Postlint::post);
        // Nor does what was asked of one draft count for the next one.
        Story open = new Story().type("(((((a+1").then(Postlint::fault).then(Postlint::clear);
        open.type("(((((a+1)))))").answers("groups open in the draft ahead", NONE, Postlint::fault);
        open.answers("post it", 0, Postlint::post);
    }

    // "however long": neither the 60 signs nor the 60 postings end a text before its form does.
    private static void howeverLong() {
        fault(Story.blanks(59) + "a", 60);
        fault(Story.blanks(58) + "a+", 60);
        fault(Story.blanks(59) + "(", 60);
        fault("(((((a+1" + Story.blanks(52), 60);
        fault("(a+1" + Story.blanks(51) + "b+1)x", 60);
        faultless("((a+1)x6)x9 (b+1)x5", "((a+1)x6)x9 (b+1)x6", "((a+1)x6)x9 (b+1)x7", "(((((a+1)x9)x9)x9)x9)x9");
        fault("((a+1)x9)x9 b", 13);
    }

    // "or its length, if it could not end there"
    private static void couldNotEndThere() {
        String[] unended = {" ", "a", "a+", "a-", "(", "( ", "(a", "(a+", "(a+1", "(a+1 ", "(a+123", "(a+1)x", "a+1 b",
            "a+1 b+", "a+1 (", "((a+1)", "((a+1) ", "((a+1)x", "((a+1)x2", "((a+1)x2 ", "(((((a+1))))", Story.blanks(60)};
        for (String text : unended) {
            fault(text, text.length());
        }
        String[] ended = {"a+1", "a+12", "a+123", "a+1 ", "(a+1)", "(a+1) ", "(a+1)x2", "(a+1)x2 ", "a+1 b+1",
            "((a+1))", "((a+1)x2)", "(((((a+1)))))"};
        faultless(ended);
    }

    // "also if it is empty"
    private static void alsoIfEmpty() {
        new Story().answers("fault of a new draft", 0, Postlint::fault);
        new Story().refuses("post a new draft", STATE, Postlint::post);
        Story.of("a+1").answers("fault behind a post", 0, Postlint::fault);
        Story.of("a+1").refuses("post an empty draft", STATE, Postlint::post);
        Story.of("a+1").refusesAsked("write an empty draft", STATE, p -> p.write(0));
        Story.of("a+1").write(0, "a+2").answers("fault behind a write", 0, Postlint::fault);
        new Story().type("a+1").then(Postlint::clear).answers("fault behind clear", 0, Postlint::fault);
        new Story().type("a").answers("fault of one sign", 1, Postlint::fault);
    }

    // "Returns the fault of the draft; NONE if it has none."
    private static void noneIfItHasNone() {
        new Story().type("a+1").answers("no fault", -1, Postlint::fault);
        new Story().type("a+1").then(Postlint::fault).answers("asked again", -1, Postlint::fault);
        new Story().type("a+1*").answers("a fault", 3, Postlint::fault);
        new Story().type("a+1*").then(Postlint::fault).answers("a fault asked again", 3, Postlint::fault);
        new Story().type("a+1").then(Postlint::fault).answers("fault leaves the draft", 4, p -> p.type('2'));
    }
}
