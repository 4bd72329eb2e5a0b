/** Long runs of calls, each answer compared with the model's; the numbers come from a fixed row. */
public final class RandomRunTest {
    private static final int RUNS = 4000;
    private static final int CALLS = 512;
    private static final int[] WILD = {Integer.MIN_VALUE, -1001, -1000, -999, -2, -1, 8, 24, 59, 60, 999, 1000,
        Integer.MAX_VALUE};

    private long seed;
    private final StringBuilder told = new StringBuilder();
    private final Postlint p = new Postlint();
    private final Model m = new Model();
    private int calls = 0;
    private boolean wrong = false;

    private RandomRunTest(long seed) {
        this.seed = seed * 7919 + 1;
    }

    public static void main(String[] args) {
        for (int run = 0; run < RUNS; run++) {
            RandomRunTest test = new RandomRunTest(run);
            test.run();
            Check.no("run " + run + ":" + (test.wrong ? test.told : ""), test.wrong);
            if (test.wrong) {
                break;
            }
        }
        Check.close("RandomRunTest");
    }

    private int pick(int below) {
        seed = seed * 6364136223846793005L + 1442695040888963407L;
        return (int) ((seed >>> 33) % below);
    }

    private int number(int below) {
        return pick(25) == 0 ? WILD[pick(WILD.length)] : pick(below);
    }

    private void same(String what, Check.Call got, Check.Call due) {
        calls++;
        String answer = Check.outcome(got);
        String want = Check.outcome(due).replace(" by the machine", "");
        told.append("\n  ").append(what).append(' ').append(answer);
        if (!answer.equals(want)) {
            told.append(", due is ").append(want);
            wrong = true;
        }
    }

    private void run() {
        while (calls < CALLS && !wrong) {
            int kind = pick(100);
            if (kind < 34) {
                draftAndUse();
            } else if (kind < 60) {
                change(pick(7));
            } else {
                ask(pick(11));
            }
        }
    }

    private void draftAndUse() {
        String text = pick(3) == 0 && m.entries.size() > 0 ? twin() : text(0, pick(3) + 1);
        if (pick(6) == 0) {
            text = spoiled(text);
        }
        for (int i = 0; i < text.length() && calls < CALLS && !wrong; i++) {
            type(text.charAt(i));
        }
        if (pick(3) == 0) {
            same("fault()", () -> p.fault(), () -> m.fault());
        }
        if (pick(3) == 0 || m.entries.isEmpty()) {
            same("post()", () -> p.post(), () -> m.post());
        } else {
            write(number(m.entries.size() + 1));
        }
        if (pick(2) == 0 && !m.draft.isEmpty()) {
            same("clear()", () -> p.clear(), () -> m.clear());
        }
    }

    private void type(int sign) {
        same("type(" + sign + ")", () -> p.type(sign), () -> m.type(sign));
    }

    private void write(int entry) {
        same("write(" + entry + ")", () -> p.write(entry) ? 1 : 0, () -> m.write(entry));
    }

    /** A text that may have the same written form as an entry that is there. */
    private String twin() {
        Model.Entry entry = m.entries.get(pick(m.entries.size()));
        String text = pick(2) == 0 ? entry.written : entry.typed;
        switch (pick(4)) {
            case 0:
                return text.replace("+", "+0");
            case 1:
                return "(" + text + ")";
            case 2:
                return " " + text.replace(" ", "  ");
            default:
                return text;
        }
    }

    private String text(int depth, int items) {
        StringBuilder text = new StringBuilder(pick(4) == 0 ? " " : "");
        for (int i = 0; i < items; i++) {
            text.append(i == 0 ? "" : pick(4) == 0 ? "  " : " ");
            if (depth < 6 && pick(100) < 45) {
                text.append('(').append(text(depth + 1, pick(3) == 0 ? 2 : 1)).append(')');
                text.append(pick(3) == 0 ? "" : "x" + (pick(3) == 0 ? 1 + pick(9) : 1 + pick(3)));
            } else {
                text.append((char) ('a' + pick(pick(2) == 0 ? 8 : 3))).append(pick(2) == 0 ? '+' : '-');
                for (int digits = pick(3); digits >= 0; digits--) {
                    text.append(pick(3) == 0 ? 0 : pick(10));
                }
            }
        }
        return text.append(pick(4) == 0 ? " " : "").toString();
    }

    private String spoiled(String text) {
        StringBuilder spoiled = new StringBuilder(text);
        int place = pick(text.length() + 1);
        String signs = "abhix+-0919()  *";
        if (pick(2) == 0 || place == text.length()) {
            spoiled.insert(place, signs.charAt(pick(signs.length())));
        } else {
            spoiled.deleteCharAt(place);
        }
        return spoiled.toString();
    }

    private void change(int kind) {
        int n = m.entries.size() + 1;
        int a = number(n);
        int b = number(n);
        switch (kind) {
            case 0:
                if (pick(3) == 0) {
                    same("strike(" + a + ")", () -> p.strike(a), () -> m.strike(a));
                }
                break;
            case 1:
                addRule();
                break;
            case 2:
                if (pick(4) == 0) {
                    int r = number(m.rules.size() + 1);
                    same("takeBack(" + r + ")", () -> p.takeBack(r), () -> m.takeBack(r));
                }
                break;
            case 3:
                if (pick(3) == 0) {
                    same("audit(" + a + ", " + b + ")", () -> p.audit(a, b), () -> m.audit(a, b));
                }
                break;
            case 4:
                int u = number(m.audits.size() + 1);
                same("end(" + u + ")", () -> p.end(u) ? 1 : 0, () -> m.end(u));
                break;
            case 5:
                type(pick(2) == 0 ? number(130) : WILD[pick(WILD.length)]);
                break;
            default:
                same("clear()", () -> p.clear(), () -> m.clear());
        }
    }

    private void addRule() {
        int kind = number(4);
        int account = number(pick(2) == 0 ? 8 : 3);
        int other = number(pick(2) == 0 ? 8 : 3);
        int number = number(60) - (kind == 1 ? 0 : 30);
        String what = "rule(" + kind + ", " + account + ", " + other + ", " + number + ")";
        same(what, () -> p.rule(kind, account, other, number), () -> m.rule(kind, account, other, number));
    }

    private void ask(int kind) {
        int e = number(m.entries.size() + 1);
        int account = number(8);
        int form = number(3);
        switch (kind) {
            case 0:
                same("entries()", () -> p.entries(), () -> m.entries.size());
                break;
            case 1:
                int place = number(pick(2) == 0 ? 12 : 80);
                same("signAt(" + e + ", " + form + ", " + place + ")", () -> p.signAt(e, form, place),
                    () -> m.signAt(e, form, place));
                break;
            case 2:
                same("length(" + e + ", " + form + ")", () -> p.length(e, form), () -> m.length(e, form));
                break;
            case 3:
                same("proof(" + e + ")", () -> p.proof(e), () -> m.proof(e));
                break;
            case 4:
                same("proofAnew(" + e + ")", () -> p.proofAnew(e), () -> m.proof(e));
                break;
            case 5:
                same("gets(" + e + ", " + account + ")", () -> p.gets(e, account), () -> m.gets(e, account));
                break;
            case 6:
                int upTo = pick(8) == 0 ? -1 : e;
                same("sum(" + upTo + ", " + account + ")", () -> p.sum(upTo, account), () -> m.sum(upTo, account));
                break;
            case 7:
                same("doubts(" + e + ")", () -> p.doubts(e), () -> m.doubts(e));
                break;
            case 8:
                int rule = number(m.rules.size() + 1);
                same("doubted(" + rule + ")", () -> p.doubted(rule), () -> m.doubted(rule));
                break;
            case 9:
                same("isFrozen(" + e + ")", () -> p.isFrozen(e) ? 1 : 0, () -> m.isFrozen(e));
                break;
            default:
                int audit = number(m.audits.size() + 1);
                same("holds(" + audit + ")", () -> p.holds(audit) ? 1 : 0, () -> m.holds(audit));
        }
    }
}
