import java.util.ArrayList;
import java.util.List;

/**
 * A row of calls that can be played on new objects as often as one likes, so that two objects with the same past can
 * be compared in all that they answer, and no object is used for more calls than the document promises.
 */
final class Story {
    interface Call {
        long on(Postlint p);
    }

    private static final int MOST_CALLS = 512;
    private static final int MOST_RULES = 8;
    private static final int MOST_AUDITS = 6;

    private final List<Call> calls = new ArrayList<>();

    /** A story with these texts posted, one behind another. */
    static Story of(String... texts) {
        Story story = new Story();
        for (String text : texts) {
            story.post(text);
        }
        return story;
    }

    static String blanks(int count) {
        return " ".repeat(count);
    }

    // ---- what happens

    Story then(Call call) {
        calls.add(call);
        return this;
    }

    Story type(String text) {
        for (char sign : text.toCharArray()) {
            then(p -> p.type(sign));
        }
        return this;
    }

    Story post(String text) {
        return type(text).then(Postlint::post);
    }

    Story write(int entry, String text) {
        return type(text).then(p -> p.write(entry) ? 1 : 0);
    }

    Story strike(int entry) {
        return then(p -> p.strike(entry));
    }

    Story rule(int kind, int account, int other, int number) {
        return then(p -> p.rule(kind, account, other, number));
    }

    Story takeBack(int rule) {
        return then(p -> p.takeBack(rule));
    }

    Story audit(int from, int to) {
        return then(p -> p.audit(from, to));
    }

    Story end(int audit) {
        return then(p -> p.end(audit) ? 1 : 0);
    }

    // ---- what is asked then, each on an object of its own

    Postlint play() {
        Postlint p = new Postlint();
        for (Call call : calls) {
            call.on(p);
        }
        return p;
    }

    Story answers(String what, long due, Call call) {
        Postlint p = play();
        Check.equal(what, Check.outcome(() -> call.on(p)), Long.toString(due));
        return this;
    }

    Story says(String what, boolean due, Asked asked) {
        return answers(what, due ? 1 : 0, p -> asked.of(p) ? 1 : 0);
    }

    interface Asked {
        boolean of(Postlint p);
    }

    /** The call throws what is due, and behind it the object is as it was. */
    Story refuses(String what, Class<? extends RuntimeException> due, Call call) {
        Postlint p = play();
        Check.equal(what, Check.outcome(() -> call.on(p)), "throws." + due.getSimpleName());
        Check.equal(what + ": nothing has changed", told(call), told(null));
        return this;
    }

    Story refusesAsked(String what, Class<? extends RuntimeException> due, Asked asked) {
        return refuses(what, due, p -> asked.of(p) ? 1 : 0);
    }

    String textOf(int entry, int form) {
        StringBuilder text = new StringBuilder();
        Postlint p = play();
        int length = p.length(entry, form);
        int used = calls.size() + 1;
        for (int i = 0; i < length; i++) {
            if (used >= MOST_CALLS) {
                p = play();
                used = calls.size();
            }
            used++;
            text.append((char) p.signAt(entry, form, i));
        }
        return text.toString();
    }

    // ---- all that an object with this past answers

    /** All answers behind the past and one more call, which may be refused and may be null. */
    private String told(Call more) {
        StringBuilder all = new StringBuilder();
        Postlint counted = withMore(more);
        int entries = counted.entries();
        tell(all, more, questions(counted, entries));
        for (Call[] end : endings(entries)) {
            tell(all, more, end);
        }
        return all.toString();
    }

    private Postlint withMore(Call more) {
        Postlint p = play();
        if (more != null) {
            Check.outcome(() -> more.on(p));
        }
        return p;
    }

    /** What the calls answer one behind another; questions change nothing, so they may go on with a new object. */
    private void tell(StringBuilder all, Call more, Call... asked) {
        Postlint p = withMore(more);
        int used = calls.size() + 1;
        for (Call call : asked) {
            if (used >= MOST_CALLS) {
                p = withMore(more);
                used = calls.size() + 1;
            }
            used++;
            Postlint told = p;
            all.append(Check.outcome(() -> call.on(told))).append(' ');
        }
        all.append('\n');
    }

    private static Call[] questions(Postlint counted, int entries) {
        List<Call> list = new ArrayList<>();
        list.add(Postlint::entries);
        list.add(Postlint::fault);
        for (int account = 0; account < 8; account++) {
            int a = account;
            list.add(p -> p.sum(Postlint.NONE, a));
        }
        for (int entry = 0; entry <= entries; entry++) {
            questionsOfEntry(list, entry);
        }
        for (int entry = 0; entry < entries; entry++) {
            for (int form = 0; form <= 2; form++) {
                questionsOfText(list, entry, form, counted.length(entry, form));
            }
        }
        for (int rule = 0; rule <= MOST_RULES; rule++) {
            int r = rule;
            list.add(p -> p.doubted(r));
        }
        for (int audit = 0; audit <= MOST_AUDITS; audit++) {
            int a = audit;
            list.add(p -> p.holds(a) ? 1 : 0);
        }
        return list.toArray(new Call[0]);
    }

    private static void questionsOfEntry(List<Call> list, int entry) {
        list.add(p -> p.proof(entry));
        list.add(p -> p.proofAnew(entry));
        list.add(p -> p.doubts(entry));
        list.add(p -> p.isFrozen(entry) ? 1 : 0);
        for (int account = 0; account < 8; account++) {
            int a = account;
            list.add(p -> p.gets(entry, a));
            list.add(p -> p.sum(entry, a));
        }
    }

    private static void questionsOfText(List<Call> list, int entry, int form, int length) {
        list.add(p -> p.length(entry, form));
        for (int place = 0; place <= length; place++) {
            int at = place;
            list.add(p -> p.signAt(entry, form, at));
        }
    }

    /** What the past allows next, which tells of what no question shows: the draft, what has ended, what is full. */
    private static List<Call[]> endings(int entries) {
        List<Call[]> list = new ArrayList<>();
        list.add(new Call[] {Postlint::clear, Postlint::fault});
        list.add(times(p -> p.type(' '), 61));
        list.add(drafted(p -> p.type(')')));
        list.add(drafted(p -> p.type('1')));
        list.add(new Call[] {Postlint::post, Postlint::entries, p -> p.proof(p.entries() - 1), Postlint::clear});
        for (int entry = 0; entry < entries; entry++) {
            int e = entry;
            list.add(new Call[] {p -> p.write(e) ? 1 : 0, p -> p.length(e, 0), p -> p.proof(e), Postlint::clear});
            list.add(new Call[] {p -> p.strike(e), p -> p.length(e, 0)});
            list.add(new Call[] {p -> p.audit(e, e), p -> p.isFrozen(e) ? 1 : 0});
        }
        list.add(times(p -> p.rule(Postlint.BALANCED, 0, 0, 0), MOST_RULES + 1));
        list.add(times(p -> p.audit(0, 0), MOST_AUDITS + 1));
        for (int rule = 0; rule < MOST_RULES; rule++) {
            int r = rule;
            list.add(new Call[] {p -> p.takeBack(r)});
        }
        for (int audit = 0; audit < MOST_AUDITS; audit++) {
            int a = audit;
            list.add(new Call[] {p -> p.end(a) ? 1 : 0, p -> p.entries() == 0 || p.isFrozen(0) ? 1 : 0});
        }
        return list;
    }

    private static Call[] times(Call call, int count) {
        Call[] row = new Call[count];
        java.util.Arrays.fill(row, call);
        return row;
    }

    private static Call[] drafted(Call typed) {
        return new Call[] {typed, Postlint::fault, typed, Postlint::fault, typed, Postlint::fault, Postlint::post,
            p -> p.length(p.entries() - 1, Postlint.WRITTEN), p -> p.proof(p.entries() - 1)};
    }
}
