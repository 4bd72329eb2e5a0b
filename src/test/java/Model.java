import java.util.ArrayList;
import java.util.List;
import java.util.regex.Pattern;

/** The document once more, by trees and patterns, in the plainest and slowest way, to compare with. */
final class Model {
    private static final Pattern ENTRY = Pattern.compile(textPattern());
    // A beginning of a text goes on with one of these and some ")", if it goes on at all.
    private static final String[] ENDINGS = {"", "1", "+1", "a+1"};

    private static String textPattern() {
        String posting = "[a-h][+-][0-9]{1,3}";
        String item = posting;
        for (int depth = 0; depth < 5; depth++) {
            item = "(?:" + posting + "|\\( *" + item + "(?: +" + item + ")* *\\)(?:x[1-9])?)";
        }
        return " *" + item + "(?: +" + item + ")* *";
    }

    /** A posting, or a group with its items and how often it is taken. */
    private static final class Node {
        char account;
        int amount;
        String sign;
        List<Node> items;
        int times;
    }

    static final class Entry {
        String typed;
        List<Node> nodes = new ArrayList<>();
        String written;
        boolean struck;
    }

    String draft = "";
    final List<Entry> entries = new ArrayList<>();
    final List<int[]> rules = new ArrayList<>();
    final List<Boolean> taken = new ArrayList<>();
    final List<int[]> audits = new ArrayList<>();
    final List<Boolean> ended = new ArrayList<>();

    static boolean isText(String text) {
        return ENTRY.matcher(text).matches();
    }

    static boolean goesOn(String beginning) {
        String closed = "";
        for (int groups = 0; groups <= 5; groups++) {
            for (String ending : ENDINGS) {
                if (isText(beginning + ending + closed)) {
                    return true;
                }
            }
            closed += ")";
        }
        return false;
    }

    long fault() {
        for (int i = 1; i <= draft.length(); i++) {
            if (!goesOn(draft.substring(0, i))) {
                return i - 1;
            }
        }
        return isText(draft) ? -1 : draft.length();
    }

    private static void state(boolean wrong) {
        if (wrong) {
            throw new IllegalStateException();
        }
    }

    private static void argument(boolean wrong) {
        if (wrong) {
            throw new IllegalArgumentException();
        }
    }

    private static void index(int number, int size) {
        if (number < 0 || number >= size) {
            throw new IndexOutOfBoundsException();
        }
    }

    long type(int sign) {
        argument(sign < 32 || sign > 126);
        state(draft.length() >= 60);
        draft += (char) sign;
        return draft.length();
    }

    long clear() {
        int had = draft.length();
        draft = "";
        return had;
    }

    private Entry read() {
        state(!isText(draft));
        Entry entry = new Entry();
        entry.typed = draft;
        entry.nodes = parse(draft, new int[] {0});
        state(spread(entry.nodes, 1).size() > 60);
        entry.written = join(normal(entry.nodes));
        return entry;
    }

    private static List<Node> parse(String text, int[] at) {
        List<Node> nodes = new ArrayList<>();
        while (at[0] < text.length()) {
            char sign = text.charAt(at[0]++);
            if (sign == ')') {
                return nodes;
            }
            if (sign == ' ') {
                continue;
            }
            Node node = new Node();
            nodes.add(node);
            if (sign == '(') {
                node.items = parse(text, at);
                node.times = 1;
                if (at[0] < text.length() && text.charAt(at[0]) == 'x') {
                    node.times = text.charAt(at[0] + 1) - '0';
                    at[0] += 2;
                }
            } else {
                int end = at[0] + 1;
                while (end < text.length() && Character.isDigit(text.charAt(end))) {
                    end++;
                }
                node.account = sign;
                node.sign = text.substring(at[0], at[0] + 1);
                node.amount = Integer.parseInt(text.substring(at[0] + 1, end));
                at[0] = end;
            }
        }
        return nodes;
    }

    private static List<Node> normal(List<Node> nodes) {
        List<Node> normal = new ArrayList<>();
        for (Node node : nodes) {
            if (node.items == null) {
                normal.add(node);
                continue;
            }
            List<Node> items = normal(node.items);
            if (node.times == 1) {
                normal.addAll(items);
                continue;
            }
            Node group = new Node();
            group.items = items;
            group.times = node.times;
            Node only = items.size() == 1 ? items.get(0) : null;
            if (only != null && only.items != null && only.times * node.times <= 9) {
                group.items = only.items;
                group.times = only.times * node.times;
            }
            normal.add(group);
        }
        return normal;
    }

    private static String show(Node node) {
        return node.items == null ? node.account + node.sign + node.amount
            : "(" + join(node.items) + ")x" + node.times;
    }

    private static String join(List<Node> nodes) {
        List<String> texts = new ArrayList<>();
        for (Node node : nodes) {
            texts.add(show(node));
        }
        return String.join(" ", texts);
    }

    private static List<Node> spread(List<Node> nodes, int times) {
        List<Node> all = new ArrayList<>();
        for (Node node : nodes) {
            if (node.items != null) {
                all.addAll(spread(node.items, times * node.times));
            } else {
                for (int i = 0; i < times; i++) {
                    all.add(node);
                }
            }
        }
        return all;
    }

    long post() {
        state(entries.size() >= 24);
        entries.add(read());
        draft = "";
        return entries.size() - 1;
    }

    long write(int entry) {
        index(entry, entries.size());
        Entry anew = read();
        boolean another = !anew.written.equals(entries.get(entry).written);
        state(another && isFrozen(entry) == 1);
        entries.set(entry, anew);
        draft = "";
        return another ? 1 : 0;
    }

    long strike(int entry) {
        index(entry, entries.size());
        state(entries.get(entry).struck || isFrozen(entry) == 1);
        Entry out = new Entry();
        out.typed = "-";
        out.written = "-";
        out.struck = true;
        entries.set(entry, out);
        return entries.stream().filter(e -> !e.struck).count();
    }

    long rule(int kind, int account, int other, int number) {
        argument(kind < 0 || kind > 3 || account < 0 || account > 7 || other < 0 || other > 7);
        argument(number < -999 || number > 999 || kind == 1 && number < 0 || kind == 2 && account == other);
        state(rules.size() >= 8);
        rules.add(new int[] {kind, account, other, number});
        taken.add(false);
        return rules.size() - 1;
    }

    long takeBack(int rule) {
        index(rule, rules.size());
        state(taken.get(rule));
        long doubted = doubted(rule);
        taken.set(rule, true);
        return doubted;
    }

    long audit(int from, int to) {
        index(from, entries.size());
        index(to, entries.size());
        argument(to < from);
        state(audits.size() >= 6);
        audits.add(new int[] {from, to, (int) proof(to)});
        ended.add(false);
        return audits.size() - 1;
    }

    long end(int audit) {
        index(audit, audits.size());
        state(ended.get(audit));
        ended.set(audit, true);
        return holds(audit);
    }

    String text(int entry, int form) {
        Entry shown = entries.get(entry);
        return form == 0 ? shown.typed : form == 1 || shown.struck ? shown.written : join(spread(shown.nodes, 1));
    }

    long signAt(int entry, int form, int place) {
        index(entry, entries.size());
        index(Math.min(place, 0), 1);
        argument(form < 0 || form > 2);
        String text = text(entry, form);
        return place < text.length() ? text.charAt(place) : -1;
    }

    long length(int entry, int form) {
        index(entry, entries.size());
        argument(form < 0 || form > 2);
        return text(entry, form).length();
    }

    long proof(int entry) {
        index(entry, entries.size());
        String[] written = new String[entry + 1];
        for (int i = 0; i <= entry; i++) {
            written[i] = entries.get(i).written;
        }
        return Check.chain(written);
    }

    long gets(int entry, int account) {
        index(entry, entries.size());
        argument(account < 0 || account > 7);
        long got = 0;
        for (Node node : spread(entries.get(entry).nodes, 1)) {
            if (node.account == 'a' + account) {
                got += node.sign.equals("+") ? node.amount : -node.amount;
            }
        }
        return got;
    }

    long sum(int entry, int account) {
        index(entry == -1 ? 0 : entry, entry == -1 ? 1 : entries.size());
        argument(account < 0 || account > 7);
        long sum = 0;
        for (int i = 0; i <= entry; i++) {
            sum += gets(i, account);
        }
        return sum;
    }

    private boolean has(int entry, int account) {
        return spread(entries.get(entry).nodes, 1).stream().anyMatch(n -> n.account == 'a' + account);
    }

    private boolean isDoubted(int entry, int rule) {
        int[] r = rules.get(rule);
        if (taken.get(rule) || entries.get(entry).struck && r[0] != 3) {
            return false;
        }
        long all = 0;
        for (int account = 0; account < 8; account++) {
            all += gets(entry, account);
        }
        long got = gets(entry, r[1]);
        return r[0] == 0 ? all != 0 : r[0] == 1 ? got > r[3] || got < -r[3]
            : r[0] == 2 ? has(entry, r[1]) && !has(entry, r[2]) : sum(entry, r[1]) < r[3];
    }

    long doubts(int entry) {
        index(entry, entries.size());
        long bits = 0;
        for (int i = 0; i < rules.size(); i++) {
            bits += isDoubted(entry, i) ? 1L << i : 0;
        }
        return bits;
    }

    long doubted(int rule) {
        index(rule, rules.size());
        long count = 0;
        for (int i = 0; i < entries.size(); i++) {
            count += isDoubted(i, rule) ? 1 : 0;
        }
        return count;
    }

    long isFrozen(int entry) {
        index(entry, entries.size());
        for (int i = 0; i < audits.size(); i++) {
            if (!ended.get(i) && audits.get(i)[0] <= entry && entry <= audits.get(i)[1]) {
                return 1;
            }
        }
        return 0;
    }

    long holds(int audit) {
        index(audit, audits.size());
        return proof(audits.get(audit)[1]) == audits.get(audit)[2] ? 1 : 0;
    }
}
