/** Counts what a test finds right and wrong, and drives a Postlint in the tests' words. */
final class Check {
    interface Call {
        long answer();
    }

    private static int right = 0;
    private static int wrong = 0;

    private Check() {
    }

    static void equal(String what, long got, long want) {
        note(got == want, what, Long.toString(got), Long.toString(want));
    }

    static void equal(String what, String got, String want) {
        note(got.equals(want), what, got, want);
    }

    static void yes(String what, boolean got) {
        note(got, what, "false", "true");
    }

    static void no(String what, boolean got) {
        note(!got, what, "true", "false");
    }

    /** The call throws exactly this exception, and by a throw statement of Postlint's own. */
    static void fails(String what, Class<? extends RuntimeException> due, Call call) {
        equal(what, outcome(call), "throws." + due.getSimpleName());
    }

    /** The answer as a text, or "throws." and the exception's name. */
    static String outcome(Call call) {
        try {
            return Long.toString(call.answer());
        } catch (RuntimeException e) {
            StackTraceElement[] trace = e.getStackTrace();
            boolean own = trace.length > 0 && trace[0].getClassName().startsWith("Postlint");
            return "throws." + e.getClass().getSimpleName() + (own ? "" : " by the machine");
        }
    }

    private static void note(boolean asDue, String what, String got, String want) {
        if (asDue) {
            right++;
            return;
        }
        wrong++;
        if (wrong <= 40) {
            System.out.println(what + " answered " + got + ", due is " + want);
        }
    }

    static void close(String test) {
        System.out.println(test + ": " + right + " answers as due, " + wrong + " not");
        if (wrong > 0 || right == 0) {
            System.exit(1);
        }
    }

    static void type(Postlint p, String text) {
        for (int i = 0; i < text.length(); i++) {
            p.type(text.charAt(i));
        }
    }

    static int post(Postlint p, String text) {
        type(p, text);
        return p.post();
    }

    static boolean write(Postlint p, int entry, String text) {
        type(p, text);
        return p.write(entry);
    }

    static Postlint with(String... texts) {
        Postlint p = new Postlint();
        for (String text : texts) {
            post(p, text);
        }
        return p;
    }

    static String text(Postlint p, int entry, int form) {
        StringBuilder text = new StringBuilder();
        int length = p.length(entry, form);
        for (int i = 0; i < length; i++) {
            text.append((char) p.signAt(entry, form, i));
        }
        return text.toString();
    }

    /** The chain over these written forms, by the document's own words. */
    static int chain(String... written) {
        int proof = 0;
        for (String form : written) {
            proof += 17;
            for (int i = 0; i < form.length(); i++) {
                proof = 31 * proof + form.charAt(i);
            }
        }
        return proof;
    }
}
