import java.util.ArrayList;

/** A ledger whose entries are typed in many forms and have one written form. */
public final class Postlint {
    public static final int NONE = -1;
    public static final int BALANCED = 0, AT_MOST = 1, WITH = 2, STAYS = 3;
    public static final int AS_TYPED = 0, WRITTEN = 1, SPREAD = 2;

    private static final int FIRST_SIGN = 32;
    private static final int LAST_SIGN = 126;
    private static final int MOST_SIGNS = 60;
    private static final int MOST_GROUPS = 5;
    private static final int MOST_TIMES = 9;
    private static final int MOST_POSTINGS = 60;
    // A posting has 5 signs at most, and a blank behind it.
    private static final int MOST_SPREAD_SIGNS = 6 * MOST_POSTINGS;
    private static final int MOST_ENTRIES = 24;
    private static final int MOST_RULES = 8;
    private static final int MOST_AUDITS = 6;
    private static final int MOST_NUMBER = 999;
    private static final int ACCOUNTS = 8;

    private final Signs draft;
    private final Signs spread;
    private final Reader reader;
    private final ArrayList<Entry> ledger;
    private final ArrayList<Rule> rules;
    private final ArrayList<Audit> audits;

    public Postlint() {
        draft = new Signs(MOST_SIGNS);
        spread = new Signs(MOST_SPREAD_SIGNS);
        reader = new Reader();
        ledger = new ArrayList<>();
        rules = new ArrayList<>();
        audits = new ArrayList<>();
    }

    // ---- the draft

    public int type(int sign) throws IllegalArgumentException, IllegalStateException {
        if (sign < FIRST_SIGN || sign > LAST_SIGN) {
            throw new IllegalArgumentException("the sign is out of range");
        }
        if (draft.size() >= MOST_SIGNS) {
            throw new IllegalStateException("the draft is full");
        }
        draft.add(sign);
        return draft.size();
    }

    public int clear() {
        int had = draft.size();
        draft.empty();
        return had;
    }

    public int fault() {
        return reader.faultOf(draft);
    }

    // ---- entries

    public int post() throws IllegalStateException {
        if (ledger.size() >= MOST_ENTRIES) {
            throw new IllegalStateException("the ledger is full");
        }
        ledger.add(entryOfDraft());
        draft.empty();
        return ledger.size() - 1;
    }

    public boolean write(int entry) throws IndexOutOfBoundsException, IllegalStateException {
        Entry old = entryAt(entry);
        Entry anew = entryOfDraft();
        boolean another = !anew.written.isSameAs(old.written);
        if (another && freezes(entry)) {
            throw new IllegalStateException("the entry is frozen");
        }
        ledger.set(entry, anew);
        draft.empty();
        return another;
    }

    public int strike(int entry) throws IndexOutOfBoundsException, IllegalStateException {
        Entry struck = entryAt(entry);
        if (struck.isStruckOut || freezes(entry)) {
            throw new IllegalStateException("the entry is struck out or frozen");
        }
        struck.strikeOut();
        int left = 0;
        for (int i = 0; i < ledger.size(); i++) {
            if (!ledger.get(i).isStruckOut) {
                left++;
            }
        }
        return left;
    }

    // ---- rules, audits

    public int rule(int kind, int account, int other, int number)
            throws IllegalArgumentException, IllegalStateException {
        needRuleKind(kind, account, other);
        needAccount(account);
        needAccount(other);
        needRuleNumber(kind, number);
        if (rules.size() >= MOST_RULES) {
            throw new IllegalStateException("there are too many rules");
        }
        rules.add(new Rule(kind, account, other, number));
        return rules.size() - 1;
    }

    public int takeBack(int rule) throws IndexOutOfBoundsException, IllegalStateException {
        Rule taken = ruleAt(rule);
        if (taken.isTakenBack) {
            throw new IllegalStateException("the rule was taken back");
        }
        int doubtedSoFar = countDoubtedBy(taken);
        taken.isTakenBack = true;
        return doubtedSoFar;
    }

    public int audit(int from, int to)
            throws IndexOutOfBoundsException, IllegalArgumentException, IllegalStateException {
        needEntry(from);
        needEntry(to);
        if (to < from) {
            throw new IllegalArgumentException("the last entry is ahead of the first one");
        }
        if (audits.size() >= MOST_AUDITS) {
            throw new IllegalStateException("there are too many audits");
        }
        audits.add(new Audit(from, to, chainUpTo(to)));
        return audits.size() - 1;
    }

    public boolean end(int audit) throws IndexOutOfBoundsException, IllegalStateException {
        Audit ended = auditAt(audit);
        if (ended.hasEnded) {
            throw new IllegalStateException("the audit has ended");
        }
        ended.hasEnded = true;
        return isProofKept(ended);
    }

    // ---- what there is

    public int entries() {
        return ledger.size();
    }

    public int signAt(int entry, int form, int place)
            throws IndexOutOfBoundsException, IllegalArgumentException {
        Entry shown = entryAt(entry);
        if (place < 0) {
            throw new IndexOutOfBoundsException("the place is below 0");
        }
        needForm(form);
        return textOf(shown, form).at(place);
    }

    public int length(int entry, int form)
            throws IndexOutOfBoundsException, IllegalArgumentException {
        Entry shown = entryAt(entry);
        needForm(form);
        return textOf(shown, form).size();
    }

    public int proof(int entry) throws IndexOutOfBoundsException {
        needEntry(entry);
        return chainUpTo(entry);
    }

    public int proofAnew(int entry) throws IndexOutOfBoundsException {
        needEntry(entry);
        return chainUpTo(entry);
    }

    public int gets(int entry, int account)
            throws IndexOutOfBoundsException, IllegalArgumentException {
        Entry asked = entryAt(entry);
        needAccount(account);
        return asked.amountOf(account);
    }

    public int sum(int entry, int account)
            throws IndexOutOfBoundsException, IllegalArgumentException {
        if (entry != NONE) {
            needEntry(entry);
        }
        needAccount(account);
        return sumUpTo(entry, account);
    }

    public int doubts(int entry) throws IndexOutOfBoundsException {
        needEntry(entry);
        int bits = 0;
        for (int i = 0; i < rules.size(); i++) {
            if (isDoubtedBy(entry, rules.get(i))) {
                bits |= 1 << i;
            }
        }
        return bits;
    }

    public int doubted(int rule) throws IndexOutOfBoundsException {
        return countDoubtedBy(ruleAt(rule));
    }

    public boolean isFrozen(int entry) throws IndexOutOfBoundsException {
        needEntry(entry);
        return freezes(entry);
    }

    public boolean holds(int audit) throws IndexOutOfBoundsException {
        return isProofKept(auditAt(audit));
    }

    // ---- what the calls ask of their arguments

    private void needEntry(int entry) {
        if (entry < 0 || entry >= ledger.size()) {
            throw new IndexOutOfBoundsException("there is no such entry");
        }
    }

    private Entry entryAt(int entry) {
        if (entry < 0 || entry >= ledger.size()) {
            throw new IndexOutOfBoundsException("there is no such entry");
        }
        return ledger.get(entry);
    }

    private Rule ruleAt(int rule) {
        if (rule < 0 || rule >= rules.size()) {
            throw new IndexOutOfBoundsException("there is no such rule");
        }
        return rules.get(rule);
    }

    private Audit auditAt(int audit) {
        if (audit < 0 || audit >= audits.size()) {
            throw new IndexOutOfBoundsException("there is no such audit");
        }
        return audits.get(audit);
    }

    private static void needAccount(int account) {
        if (account < 0 || account >= ACCOUNTS) {
            throw new IllegalArgumentException("the account is out of range");
        }
    }

    private static void needForm(int form) {
        if (form < AS_TYPED || form > SPREAD) {
            throw new IllegalArgumentException("the form is out of range");
        }
    }

    private static void needRuleKind(int kind, int account, int other) {
        if (kind < BALANCED || kind > STAYS) {
            throw new IllegalArgumentException("the kind is out of range");
        }
        if (kind == WITH && account == other) {
            throw new IllegalArgumentException("both accounts are the same");
        }
    }

    private static void needRuleNumber(int kind, int number) {
        int least = kind == AT_MOST ? 0 : -MOST_NUMBER;
        if (number < least || number > MOST_NUMBER) {
            throw new IllegalArgumentException("the number is out of range");
        }
    }

    // ---- what the calls share

    private Entry entryOfDraft() {
        if (reader.faultOf(draft) != NONE) {
            throw new IllegalStateException("the draft has a fault");
        }
        Entry entry = new Entry();
        entry.take(draft);
        if (entry.postings > MOST_POSTINGS) {
            throw new IllegalStateException("the draft counts too many postings");
        }
        return entry;
    }

    private Signs textOf(Entry entry, int form) {
        if (form == AS_TYPED) {
            return entry.typed;
        }
        // Struck out, an entry has no posting to spread: its "-" stands for all forms.
        if (form == WRITTEN || entry.isStruckOut) {
            return entry.written;
        }
        entry.spreadInto(spread);
        return spread;
    }

    private int chainUpTo(int entry) {
        int proof = 0;
        for (int i = 0; i <= entry && i < ledger.size(); i++) {
            proof = ledger.get(i).written.chainedTo(proof + 17);
        }
        return proof;
    }

    private int sumUpTo(int entry, int account) {
        int sum = 0;
        for (int i = 0; i <= entry && i < ledger.size(); i++) {
            sum += ledger.get(i).amountOf(account);
        }
        return sum;
    }

    private boolean freezes(int entry) {
        for (int i = 0; i < audits.size(); i++) {
            Audit audit = audits.get(i);
            if (!audit.hasEnded && audit.from <= entry && entry <= audit.to) {
                return true;
            }
        }
        return false;
    }

    private boolean isProofKept(Audit audit) {
        return chainUpTo(audit.to) == audit.kept;
    }

    private int countDoubtedBy(Rule rule) {
        int count = 0;
        for (int i = 0; i < ledger.size(); i++) {
            if (isDoubtedBy(i, rule)) {
                count++;
            }
        }
        return count;
    }

    private boolean isDoubtedBy(int entry, Rule rule) {
        if (rule.isTakenBack || entry < 0 || entry >= ledger.size()) {
            return false;
        }
        if (rule.kind == STAYS) {
            return sumUpTo(entry, rule.account) < rule.number;
        }
        return rule.doubtsAlone(ledger.get(entry));
    }

    private static boolean isAccount(int sign) {
        return sign >= 'a' && sign < 'a' + ACCOUNTS;
    }

    private static boolean isDigit(int sign) {
        return sign >= '0' && sign <= '9';
    }

    /** A row of signs in a fixed room: what lies outside is NONE and takes nothing. */
    private static final class Signs {
        private final int[] codes;
        private int count;

        Signs(int room) {
            codes = new int[Math.max(room, 0)];
        }

        int size() {
            return count;
        }

        int at(int place) {
            if (place < 0 || place >= count || place >= codes.length) {
                return NONE;
            }
            return codes[place];
        }

        int last() {
            return at(count - 1);
        }

        void empty() {
            count = 0;
        }

        void add(int sign) {
            if (count >= 0 && count < codes.length) {
                codes[count] = sign;
                count++;
            }
        }

        void replaceLast(int sign) {
            int place = count - 1;
            if (place >= 0 && place < codes.length) {
                codes[place] = sign;
            }
        }

        void remove(int place) {
            if (place < 0 || place >= count) {
                return;
            }
            for (int i = place; i + 1 < count && i + 1 < codes.length; i++) {
                codes[i] = codes[i + 1];
            }
            count--;
        }

        void copy(Signs other) {
            empty();
            for (int i = 0; i < other.size(); i++) {
                add(other.at(i));
            }
        }

        void becomeOne(int sign) {
            empty();
            add(sign);
        }

        boolean isSameAs(Signs other) {
            if (count != other.size()) {
                return false;
            }
            for (int i = 0; i < count; i++) {
                if (at(i) != other.at(i)) {
                    return false;
                }
            }
            return true;
        }

        int chainedTo(int start) {
            int chain = start;
            for (int i = 0; i < count; i++) {
                chain = 31 * chain + at(i);
            }
            return chain;
        }
    }

    /** Reads a text sign by sign and finds its fault. */
    private static final class Reader {
        private static final int AHEAD_OF_ITEM = 0, BEHIND_ACCOUNT = 1, BEHIND_PLUS_OR_MINUS = 2;
        private static final int BEHIND_X = 3;
        // From here on an item stands whole: a blank, ")" or the end may follow.
        private static final int WHOLE = 4;
        private static final int ONE_DIGIT = 4, TWO_DIGITS = 5, THREE_DIGITS = 6;
        private static final int CLOSED = 7, TAKEN = 8, BEHIND_BLANK = 9;

        private int state;
        private int openGroups;

        int faultOf(Signs text) {
            state = AHEAD_OF_ITEM;
            openGroups = 0;
            for (int i = 0; i < text.size(); i++) {
                state = stateBehind(text.at(i));
                if (state == NONE) {
                    return i;
                }
            }
            return state >= WHOLE && openGroups == 0 ? NONE : text.size();
        }

        private int stateBehind(int sign) {
            switch (state) {
                case AHEAD_OF_ITEM:
                    return sign == ' ' ? AHEAD_OF_ITEM : stateBehindStart(sign);
                case BEHIND_ACCOUNT:
                    return sign == '+' || sign == '-' ? BEHIND_PLUS_OR_MINUS : NONE;
                case BEHIND_PLUS_OR_MINUS:
                    return isDigit(sign) ? ONE_DIGIT : NONE;
                case ONE_DIGIT:
                    return isDigit(sign) ? TWO_DIGITS : stateBehindItem(sign);
                case TWO_DIGITS:
                    return isDigit(sign) ? THREE_DIGITS : stateBehindItem(sign);
                case CLOSED:
                    return sign == 'x' ? BEHIND_X : stateBehindItem(sign);
                case BEHIND_X:
                    return isDigit(sign) && sign != '0' ? TAKEN : NONE;
                case BEHIND_BLANK:
                    return sign == ' ' || sign == ')' ? stateBehindItem(sign) : stateBehindStart(sign);
                default:
                    return stateBehindItem(sign);
            }
        }

        private int stateBehindStart(int sign) {
            if (isAccount(sign)) {
                return BEHIND_ACCOUNT;
            }
            if (sign == '(' && openGroups < MOST_GROUPS) {
                openGroups++;
                return AHEAD_OF_ITEM;
            }
            return NONE;
        }

        private int stateBehindItem(int sign) {
            if (sign == ' ') {
                return BEHIND_BLANK;
            }
            if (sign == ')' && openGroups > 0) {
                openGroups--;
                return CLOSED;
            }
            return NONE;
        }
    }

    /** Turns a text without a fault into its written form. */
    private static final class Writer {
        // The signs of ")x" and the digit, which end each group that stays.
        private static final int GROUP_END = 3;

        static void writeForm(Signs typed, Signs written) {
            written.empty();
            for (int i = 0; i < typed.size(); i++) {
                int sign = typed.at(i);
                if (isAccount(sign)) {
                    addBlankBehindItem(written);
                    addPosting(typed, i, written);
                } else if (sign == '(') {
                    addBlankBehindItem(written);
                    written.add(sign);
                } else if (sign == ')') {
                    closeGroup(written, timesBehind(typed, i));
                }
            }
        }

        private static void addBlankBehindItem(Signs written) {
            if (written.size() > 0 && written.last() != '(') {
                written.add(' ');
            }
        }

        private static void addPosting(Signs typed, int place, Signs written) {
            written.add(typed.at(place));
            written.add(typed.at(place + 1));
            boolean digitAhead = false;
            for (int i = place + 2; i < typed.size() && isDigit(typed.at(i)); i++) {
                boolean lastDigit = !isDigit(typed.at(i + 1));
                if (typed.at(i) != '0' || digitAhead || lastDigit) {
                    written.add(typed.at(i));
                    digitAhead = true;
                }
            }
        }

        private static int timesBehind(Signs typed, int place) {
            return typed.at(place + 1) == 'x' ? typed.at(place + 2) - '0' : 1;
        }

        // Its items are in written form already, so groups go from the innermost ones on.
        private static void closeGroup(Signs written, int times) {
            int open = lastOpen(written);
            if (times == 1) {
                written.remove(open);
                return;
            }
            int multiplied = times * (written.last() - '0');
            if (isOneGroupFrom(written, open + 1) && multiplied <= MOST_TIMES) {
                written.remove(open);
                written.replaceLast('0' + multiplied);
                return;
            }
            written.add(')');
            written.add('x');
            written.add('0' + times);
        }

        private static int lastOpen(Signs written) {
            int closed = 0;
            for (int i = written.size() - 1; i >= 0; i--) {
                if (written.at(i) == ')') {
                    closed++;
                } else if (written.at(i) == '(' && closed == 0) {
                    return i;
                } else if (written.at(i) == '(') {
                    closed--;
                }
            }
            return NONE;
        }

        private static boolean isOneGroupFrom(Signs written, int place) {
            if (written.at(place) != '(') {
                return false;
            }
            int open = 0;
            for (int i = place; i < written.size(); i++) {
                if (written.at(i) == '(') {
                    open++;
                } else if (written.at(i) == ')') {
                    open--;
                }
                if (open == 0) {
                    return i == written.size() - GROUP_END;
                }
            }
            return false;
        }
    }

    /** An entry, with what its written form counts as. */
    private static final class Entry {
        private final Signs typed;
        private final Signs written;
        private final int[] amounts;
        private int accountBits;
        private int postings;
        private boolean isStruckOut;

        Entry() {
            typed = new Signs(MOST_SIGNS);
            written = new Signs(MOST_SIGNS);
            amounts = new int[ACCOUNTS];
        }

        void take(Signs text) {
            typed.copy(text);
            Writer.writeForm(typed, written);
            for (int i = 0; i < written.size(); i++) {
                if (isAccount(written.at(i))) {
                    countPosting(i);
                }
            }
        }

        void strikeOut() {
            typed.becomeOne('-');
            written.becomeOne('-');
            for (int i = 0; i < amounts.length; i++) {
                amounts[i] = 0;
            }
            accountBits = 0;
            isStruckOut = true;
        }

        int amountOf(int account) {
            return account >= 0 && account < amounts.length ? amounts[account] : 0;
        }

        int allAmounts() {
            int all = 0;
            for (int i = 0; i < amounts.length; i++) {
                all += amounts[i];
            }
            return all;
        }

        boolean has(int account) {
            return (accountBits >> account & 1) != 0;
        }

        void spreadInto(Signs row) {
            row.empty();
            for (int i = 0; i < written.size(); i++) {
                if (isAccount(written.at(i))) {
                    spreadPosting(i, row);
                }
            }
        }

        private void spreadPosting(int place, Signs row) {
            int times = timesAt(place);
            for (int i = 0; i < times && i < MOST_POSTINGS; i++) {
                if (row.size() > 0) {
                    row.add(' ');
                }
                row.add(written.at(place));
                row.add(written.at(place + 1));
                for (int j = place + 2; j < written.size() && isDigit(written.at(j)); j++) {
                    row.add(written.at(j));
                }
            }
        }

        private void countPosting(int place) {
            int account = written.at(place) - 'a';
            int times = timesAt(place);
            postings += times;
            accountBits |= 1 << account;
            if (account >= 0 && account < amounts.length) {
                amounts[account] += times * numberAt(place);
            }
        }

        private int numberAt(int place) {
            int number = 0;
            for (int i = place + 2; i < written.size() && isDigit(written.at(i)); i++) {
                number = 10 * number + written.at(i) - '0';
            }
            return written.at(place + 1) == '-' ? -number : number;
        }

        // Each group of a written form ends with ")x" and how often it is taken.
        private int timesAt(int place) {
            int times = 1;
            int open = 0;
            for (int i = place; i < written.size(); i++) {
                if (written.at(i) == '(') {
                    open++;
                } else if (written.at(i) == ')' && open > 0) {
                    open--;
                } else if (written.at(i) == ')') {
                    times *= written.at(i + 2) - '0';
                }
            }
            return times;
        }
    }

    private static final class Rule {
        private final int kind;
        private final int account;
        private final int other;
        private final int number;
        private boolean isTakenBack;

        Rule(int kind, int account, int other, int number) {
            this.kind = kind;
            this.account = account;
            this.other = other;
            this.number = number;
        }

        // Struck out, an entry counts as nothing, so none of these kinds doubts it.
        boolean doubtsAlone(Entry entry) {
            switch (kind) {
                case BALANCED:
                    return entry.allAmounts() != 0;
                case AT_MOST:
                    return Math.abs(entry.amountOf(account)) > number;
                case WITH:
                    return entry.has(account) && !entry.has(other);
                default:
                    return false;
            }
        }
    }

    private static final class Audit {
        private final int from;
        private final int to;
        private final int kept;
        private boolean hasEnded;

        Audit(int from, int to, int kept) {
            this.from = from;
            this.to = to;
            this.kept = kept;
        }
    }
}
