/**
 * The boundaries of written forms, of spread texts and of what an entry counts: for each sentence that names one, what is
 * due on it, one step inside and one step outside. Above each method stands its sentence.
 */
public final class FormBoundaryTest {
    private static final Class<IllegalStateException> STATE = IllegalStateException.class;

    public static void main(String[] args) {
        oneBlankBetweenTwoNoOthers();
        numbersWithoutZeroAhead();
        takenOnceIsWrittenWithout();
        oneGroupAlone();
        multipliedAtMostNine();
        fromTheInnermostOnesOn();
        spreadAsOftenAsItCounts();
        spreadNumbersAndBlanks();
        theLongestSpread();
        spreadAskedAgain();
        itMayCountSixty();
        itMayCountSixtyWrittenAnew();
        countsMultiplied();
        Check.close("FormBoundaryTest");
    }

    private static void written(String typed, String due) {
        Story story = Story.of(typed);
        Check.equal("written form of '" + typed + "'", story.textOf(0, Postlint.WRITTEN), due);
        Check.equal("as typed '" + typed + "'", story.textOf(0, Postlint.AS_TYPED), typed);
        story.answers("length of '" + due + "'", due.length(), p -> p.length(0, Postlint.WRITTEN));
        story.answers("behind '" + due + "'", Postlint.NONE, p -> p.signAt(0, Postlint.WRITTEN, due.length()));
        Check.equal("written form of '" + due + "'", Story.of(due).textOf(0, Postlint.WRITTEN), due);
    }

    private static void spread(String typed, String due) {
        Story story = Story.of(typed);
        Check.equal("spread '" + typed + "'", story.textOf(0, Postlint.SPREAD), due);
        story.answers("length of '" + due + "'", due.length(), p -> p.length(0, Postlint.SPREAD));
        story.answers("behind '" + due + "'", Postlint.NONE, p -> p.signAt(0, Postlint.SPREAD, due.length()));
    }

    // "items with one blank between two, no others"
    private static void oneBlankBetweenTwoNoOthers() {
        written("a+1", "a+1");
        written(" a+1", "a+1");
        written("a+1 ", "a+1");
        written(Story.blanks(57) + "a+1", "a+1");
        written("a+1" + Story.blanks(57), "a+1");
        written("a+1 b+1", "a+1 b+1");
        written("a+1  b+1", "a+1 b+1");
        written("a+1" + Story.blanks(54) + "b+1", "a+1 b+1");
        written("( a+1 )x2", "(a+1)x2");
        written(" (  a+1   b+1  )x2  ", "(a+1 b+1)x2");
        written("( ( a+1 b+1 )x2 c+1 )x2", "((a+1 b+1)x2 c+1)x2");
        written("a+1  (b+1)x2   c+1", "a+1 (b+1)x2 c+1");
        written("(a+1)x2  (b+1)x2", "(a+1)x2 (b+1)x2");
    }

    // "numbers without 0 ahead (0 is 0; its sign stays)"
    private static void numbersWithoutZeroAhead() {
        String[][] numbers = {{"0", "0"}, {"00", "0"}, {"000", "0"}, {"1", "1"}, {"01", "1"}, {"001", "1"}, {"10", "10"},
            {"010", "10"}, {"100", "100"}, {"101", "101"}, {"11", "11"}, {"011", "11"}, {"9", "9"}, {"009", "9"},
            {"099", "99"}, {"999", "999"}, {"090", "90"}, {"909", "909"}};
        for (String[] number : numbers) {
            for (String sign : new String[] {"+", "-"}) {
                written("a" + sign + number[0], "a" + sign + number[1]);
                written("(h" + sign + number[0] + ")x2", "(h" + sign + number[1] + ")x2");
                written("b+00 a" + sign + number[0] + " c-00", "b+0 a" + sign + number[1] + " c-0");
                spread("(a" + sign + number[0] + ")x2", "a" + sign + number[1] + " a" + sign + number[1]);
            }
        }
    }

    // "a group that is taken once is written without ( ), its items in its place"
    private static void takenOnceIsWrittenWithout() {
        written("(a+1)", "a+1");
        written("(a+1)x1", "a+1");
        written("(a+1)x2", "(a+1)x2");
        written("(a+1 b+1)", "a+1 b+1");
        written("(a+1 b+1)x1", "a+1 b+1");
        written("(a+1 b+1)x2", "(a+1 b+1)x2");
        written("c+1 (a+1 b+1)x1 d+1", "c+1 a+1 b+1 d+1");
        written("c+1 (a+1 b+1)x2 d+1", "c+1 (a+1 b+1)x2 d+1");
        written("((a+1)x1)x1", "a+1");
        written("((a+1)x2)x1", "(a+1)x2");
        written("((a+1)x1)x2", "(a+1)x2");
        written("(((((a+1)x1)x1)x1)x1)x1", "a+1");
        written("(((((a+1)))))", "a+1");
        written("(((((a+1)x2))))", "(a+1)x2");
        written("((((( a+1 ))) )x3)", "(a+1)x3");
        written("((a+1)x2 (b+1)x1)x1", "(a+1)x2 b+1");
    }

    // "a group of one group alone as one group"
    private static void oneGroupAlone() {
        written("(a+1)x3", "(a+1)x3");
        written("((a+1)x2)x3", "(a+1)x6");
        written("((a+1 b+1)x2)x3", "(a+1 b+1)x6");
        written("(((a+1)x2)x2)x2", "(a+1)x8");
        written("((a+1)x2 (b+1)x2)x3", "((a+1)x2 (b+1)x2)x3");
        written("((a+1)x2 b+1)x3", "((a+1)x2 b+1)x3");
        written("(a+1 (b+1)x2)x3", "(a+1 (b+1)x2)x3");
        written("((a+1)x2 (b+1))x3", "((a+1)x2 b+1)x3");
        written("((a+1) (b+1)x2)x3", "(a+1 (b+1)x2)x3");
        written("(((a+1)x2 (b+1)x2)x2)x3", "((a+1)x2 (b+1)x2)x6");
        written("(((a+1)x2 (b+1)x2))x3", "((a+1)x2 (b+1)x2)x3");
        written("(((a+1)x2))x3", "(a+1)x6");
        written("((((a+1)x2)x1))x3", "(a+1)x6");
        written("a+1 ((b+1)x2)x3 c+1", "a+1 (b+1)x6 c+1");
        written("(( (a+1)x2 )x2 c+1)x2", "((a+1)x4 c+1)x2");
        written("(c+1 ((a+1)x2)x2)x2", "(c+1 (a+1)x4)x2");
    }

    // "which is taken as often as both numbers multiplied, if that is at most 9"
    private static void multipliedAtMostNine() {
        for (int inner = 1; inner <= 9; inner++) {
            for (int outer = 1; outer <= 9; outer++) {
                int both = inner * outer;
                String typed = "((a+1)x" + inner + ")x" + outer;
                if (both > 60) {
                    new Story().type(typed).refuses("post " + typed, STATE, Postlint::post);
                } else if (both == 1) {
                    written(typed, "a+1");
                } else if (both <= 9) {
                    written(typed, "(a+1)x" + both);
                } else {
                    written(typed, inner == 1 ? "(a+1)x" + outer : outer == 1 ? "(a+1)x" + inner : typed);
                }
            }
        }
    }

    // "groups within one another are looked at from the innermost ones on"
    private static void fromTheInnermostOnesOn() {
        written("(((a+1)x2)x3)x2", "((a+1)x6)x2");
        written("(((a+1)x2)x2)x3", "((a+1)x4)x3");
        written("(((a+1)x3)x2)x2", "((a+1)x6)x2");
        written("(((a+1)x3)x3)x2", "((a+1)x9)x2");
        written("(((a+1)x5)x2)x4", "((a+1)x5)x8");
        written("(((a+1)x5)x2)x5", "(((a+1)x5)x2)x5");
        written("(((a+1)x4)x3)x3", "((a+1)x4)x9");
        written("(((a+1)x4)x3)x4", "(((a+1)x4)x3)x4");
        written("((((a+1)x2)x2)x2)x2", "((a+1)x8)x2");
        written("(((((a+1)x2)x2)x2)x2)x2", "((a+1)x8)x4");
        written("(((((a+1)x3)x2)x2)x2)x2", "((a+1)x6)x8");
        written("(((((a+1)x1)x2)x1)x4)x1", "(a+1)x8");
        written("((((a+1)x7)x2)x1)x4", "((a+1)x7)x8");
        written("(((a+0)x2 (b+0)x2)x2)x3", "((a+0)x2 (b+0)x2)x6");
        written("(((a+0)x2)x2 ((b+0)x2)x2)x3", "((a+0)x4 (b+0)x4)x3");
    }

    // "its postings as they stand, each as often as it counts (all of one ahead of the next one)"
    private static void spreadAsOftenAsItCounts() {
        spread("a+1", "a+1");
        spread("(a+1)x1", "a+1");
        spread("(a+1)x2", "a+1 a+1");
        spread("(a+1)x9", "a+1 a+1 a+1 a+1 a+1 a+1 a+1 a+1 a+1");
        spread("(a+1 b+2)x2", "a+1 a+1 b+2 b+2");
        spread("(a+1 a+1)x2", "a+1 a+1 a+1 a+1");
        spread("(a+1 (b+2)x2)x2 c+3", "a+1 a+1 b+2 b+2 b+2 b+2 c+3");
        spread("(a+1 b+2)x2 (c+3)x3", "a+1 a+1 b+2 b+2 c+3 c+3 c+3");
        spread("c+1 b+1 a+1", "c+1 b+1 a+1");
        spread("a+1 a-1 a+1", "a+1 a-1 a+1");
        Story nested = Story.of("(((((a+1)x2)x2)x2)x2)x2");
        nested.answers("five groups, 32 times", 32 * 4 - 1, p -> p.length(0, Postlint.SPREAD));
        Story deep = Story.of("((((b+1 (a+1)x3)x2)x3)x2)x1");
        deep.answers("both as often as they count", (12 + 36) * 4 - 1, p -> p.length(0, Postlint.SPREAD));
        deep.answers("the last of one", 'b', p -> p.signAt(0, Postlint.SPREAD, 11 * 4));
        deep.answers("the first of the next one", 'a', p -> p.signAt(0, Postlint.SPREAD, 12 * 4));
    }

    // "with one blank between two and numbers without 0 ahead"
    private static void spreadNumbersAndBlanks() {
        spread("  a+1  ", "a+1");
        spread("a+1    b+1", "a+1 b+1");
        spread(" ( a-000   b+010 )x2 ", "a-0 a-0 b+10 b+10");
        spread("a+001 b-01 c+0", "a+1 b-1 c+0");
    }

    private static void theLongestSpread() {
        Story longest = Story.of("((a+100)x6)x9 (b-999)x6", "c+1");
        longest.answers("60 postings of 5 signs", 60 * 6 - 1, p -> p.length(0, Postlint.SPREAD));
        longest.answers("its last sign", '9', p -> p.signAt(0, Postlint.SPREAD, 358));
        longest.answers("its last account", 'b', p -> p.signAt(0, Postlint.SPREAD, 354));
        longest.answers("behind it", Postlint.NONE, p -> p.signAt(0, Postlint.SPREAD, 359));
        longest.answers("the next one", 3, p -> p.length(1, Postlint.SPREAD));
        StringBuilder due = new StringBuilder();
        for (int i = 0; i < 60; i++) {
            due.append(i == 0 ? "" : " ").append(i < 54 ? "a+100" : "b-999");
        }
        Check.equal("the whole of it", longest.textOf(0, Postlint.SPREAD), due.toString());
        Story less = Story.of("((a+100)x6)x9 (b-999)x5");
        less.answers("59 postings of 5 signs", 59 * 6 - 1, p -> p.length(0, Postlint.SPREAD));
    }

    // What was asked ahead of it leaves nothing in the text that is asked now.
    private static void spreadAskedAgain() {
        Story story = Story.of("((a+100)x6)x9 (b-999)x6", "(c+1)x2").then(p -> p.length(0, Postlint.SPREAD));
        story.answers("a short one behind a long one", 7, p -> p.length(1, Postlint.SPREAD));
        story.answers("the long one again", 359, p -> p.length(0, Postlint.SPREAD));
        story.answers("behind the short one", Postlint.NONE, p -> p.signAt(1, Postlint.SPREAD, 7));
        story.then(p -> p.length(1, Postlint.SPREAD)).answers("the short one again", 7, p -> p.length(1, Postlint.SPREAD));
        story.strike(1).answers("the short one struck out", 1, p -> p.length(1, Postlint.SPREAD));
    }

    // "it may count 60 postings at most, together"
    private static void itMayCountSixty() {
        String[] sixty = {"((a+1)x6)x9 (b+1)x6", "((a+1)x5)x6 ((b+1)x5)x6", "(((a+1)x5)x6)x2", "((a+1 b+1 c+1)x4)x5",
            "((a+1 (b+1)x9)x6)", "(a+1 b+1 c+1 d+1 e+1 f+1 g+1 h+1 a+1 b+1 c+1 d+1)x5", "((((a+0)x5)x3)x2)x2"};
        for (String text : sixty) {
            new Story().type(text).answers("post " + text, 0, Postlint::post);
        }
        for (String text : new String[] {"((a+1)x6)x9 (b+1)x5", "((a+1)x7)x8 b+1 c+1 d+1", "(a+1 (b+1)x9)x5 (c+0)x9"}) {
            new Story().type(text).answers("post 59 " + text, 0, Postlint::post);
        }
        String[] more = {"((a+1)x6)x9 (b+1)x7", "((a+1)x5)x6 ((b+1)x5)x6 c+0", "a+0 (((a+1)x5)x6)x2", "((a+0)x8)x8",
            "((a+0)x9)x7", "(a+1 b+1 c+1 d+1 e+1 f+1 g+1 h+1 a+1 b+1 c+1 d+1)x6", "(((((a+0)x9)x9)x9)x9)x9",
            "(a+0 b+0 (c+0)x9)x5 ((d+0)x2)x3"};
        for (String text : more) {
            Story story = new Story().type(text);
            story.answers("no fault in " + text, Postlint.NONE, Postlint::fault);
            story.refuses("post " + text, STATE, Postlint::post);
        }
        Story.of("a+1", "b+1").type(more[1]).refuses("post 61 behind others", STATE, Postlint::post);
    }

    private static void itMayCountSixtyWrittenAnew() {
        Story.of("a+1").type("((a+1)x6)x9 (b+1)x5").says("write 59", true, p -> p.write(0));
        Story.of("a+1").type("((a+1)x6)x9 (b+1)x6").says("write 60", true, p -> p.write(0));
        Story.of("a+1").type("((a+1)x6)x9 (b+1)x7").refusesAsked("write 61", STATE, p -> p.write(0));
        Story.of("a+1").type("(((((a+0)x9)x9)x9)x9)x9").refusesAsked("write 59049", STATE, p -> p.write(0));
        // Each entry may count 60 for itself.
        Story.of("((a+1)x6)x9 (b+1)x6").type("((a+1)x6)x9 (b+1)x6").answers("60 behind 60", 1, Postlint::post);
        // What was refused counts for nothing later on.
        Story refused = Story.of("a+1").type("((a+1)x6)x9 (b+1)x7").then(p -> Check.outcome(p::post).length());
        refused.then(Postlint::clear).type("((a+1)x6)x9 (b+1)x6").answers("60 behind 61 refused", 1, Postlint::post);
    }

    // "An entry counts as its postings, each as often as the groups around it are taken, multiplied"
    private static void countsMultiplied() {
        String[] texts = {"a+1", "(a+1)x1", "(a+1)x2", "(a+1)x9", "((a+1)x2)x3", "((a+1)x5)x2", "((a+1)x9)x6",
            "(((a+1)x5)x6)x2", "(((((a+1)x2)x2)x2)x2)x2", "a+1 (a+1)x2 ((a+1)x2)x2", "(a+1 (a+1)x2 (a+1)x3)x2"};
        int[] due = {1, 1, 2, 9, 6, 10, 54, 60, 32, 7, 12};
        for (int i = 0; i < texts.length; i++) {
            Story.of(texts[i]).answers("a gets by " + texts[i], due[i], p -> p.gets(0, 0));
        }
        Story.of("((a+999)x6)x9 (a+999)x6").answers("the most", 60 * 999, p -> p.gets(0, 0));
        Story.of("((a-999)x6)x9 (a-999)x6").answers("the least", -60 * 999, p -> p.gets(0, 0));
    }
}
