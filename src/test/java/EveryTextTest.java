/**
 * Every draft of a few signs up to a length, each compared with the model. Behind a sign that is a fault nothing is
 * typed on: whatever stands there, the fault stays where it is, which the shorter lengths show for all endings.
 */
public final class EveryTextTest {
    private static int texts = 0;

    public static void main(String[] args) {
        everyDraft("", "ah+-019()x i", 5, true);
        everyDraft("", "a-0(x3) ", 11, false);
        everyDraft("((((", "a+1(x2) ", 13, false);
        everyDraft("(((a+1)x", "12359()x", 14, false);
        Check.yes("many of the drafts are texts", texts > 5_000);
        Check.close("EveryTextTest");
    }

    private static void everyDraft(String beginning, String signs, int length, boolean behindFaults) {
        boolean goesOn = compare(beginning);
        if (beginning.length() < length && (goesOn || behindFaults)) {
            for (int i = 0; i < signs.length(); i++) {
                everyDraft(beginning + signs.charAt(i), signs, length, behindFaults);
            }
        }
    }

    /** Compares what the draft answers; tells whether some text goes on with it. */
    private static boolean compare(String draft) {
        Postlint p = new Postlint();
        Model m = new Model();
        Check.type(p, draft);
        m.draft = draft;
        long fault = m.fault();
        Check.equal("fault of '" + draft + "'", p.fault(), fault);
        String posted = Check.outcome(p::post);
        Check.equal("post '" + draft + "'", posted, Check.outcome(m::post).replace(" by the machine", ""));
        if (posted.equals("0")) {
            texts++;
            for (int form = Postlint.AS_TYPED; form <= Postlint.SPREAD; form++) {
                Check.equal("form " + form + " of '" + draft + "'", Check.text(p, 0, form), m.text(0, form));
            }
        }
        return fault == Postlint.NONE || fault == draft.length();
    }
}
