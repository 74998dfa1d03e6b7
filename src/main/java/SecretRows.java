/**
 * Secrets of a build: who sees which by rules, handles when a step begins, rotation with spans in
 * which old ones count still, logs in which every form of them is covered though it comes in
 * pieces, tokens with ends, an audit, scans of texts for leaks.
 */
public final class SecretRows {
    public static final int NONE = -1;

    private static final int MOST_SECRETS = 10;
    private static final int MOST_VALUES = 24;
    private static final int MOST_STEPS = 12;
    private static final int MOST_TOKENS = 20;
    private static final int MOST_TICKS = 100000;
    private static final int LATEST_CLOCK = 1000000000;
    private static final int TEXT_ROOM = 300;
    private static final int AUDIT_ROOM = 200;
    private static final int AUDIT_COLUMNS = 3;
    private static final int HIGHEST_BIT = 7;
    private static final int SHORTEST_VALUE = 4;
    private static final int LONGEST_VALUE = 12;
    private static final char BLANK = 32;
    private static final char LAST_CHARACTER = 126;
    private static final char STAR = '*';
    private static final int STARS = 3;

    /** Three of each VALUE and of each OLD one. */
    private static final int MOST_FORMS = MOST_SECRETS * 2 * 3;
    private static final int AS_IT_IS = 0;
    private static final int FROM_THE_END = 1;
    private static final int BY_CODES = 2;

    private final Secret[] secrets;
    private final Step[] steps;
    private final Token[] tokens;
    private final Audit readings;
    private final Text tape;
    private final Forms forms;
    private int secretCount;
    private int stepCount;
    private int tokenCount;
    private int valueCount;
    private int clock;
    private int leakSecret;
    private int leakForm;
    private int leakOld;

    public SecretRows() {
        secrets = new Secret[MOST_SECRETS];
        steps = new Step[MOST_STEPS];
        tokens = new Token[MOST_TOKENS];
        readings = new Audit();
        tape = new Text(TEXT_ROOM);
        forms = new Forms();
        leakSecret = NONE;
        leakForm = NONE;
        leakOld = NONE;
    }

    public int secret(int environments, int branches, int jobs) {
        if (secretCount >= secrets.length) {
            return NONE;
        }
        secrets[secretCount] = new Secret(environments, branches, jobs);
        secretCount++;
        return secretCount - 1;
    }

    public boolean type(char c) {
        return c >= BLANK && c <= LAST_CHARACTER && tape.add(c);
    }

    public int set(int secret, int ticks) {
        int answer = setFromTape(findSecret(secret), ticks);
        tape.clear();
        return answer;
    }

    public boolean revoke(int secret) {
        Secret found = findSecret(secret);
        if (found == null || found.revoked) {
            return false;
        }
        found.revoked = true;
        return true;
    }

    public int tick(int n) {
        if (n < 0 || n > MOST_TICKS || clock > LATEST_CLOCK - n) {
            return NONE;
        }
        clock += n;
        return clock;
    }

    public int step(int environment, int branch, int job, boolean outside) {
        if (!isBit(environment) || !isBit(branch) || !isBit(job) || stepCount >= steps.length) {
            return NONE;
        }
        Step begun = new Step();
        if (!outside) {
            keepSeen(begun, environment, branch, job);
        }
        steps[stepCount] = begun;
        stepCount++;
        return stepCount - 1;
    }

    public int sees(int step, int i) {
        Step found = findStep(step);
        return found == null ? NONE : found.seenAt(i);
    }

    public int read(int step, int secret, int i) {
        Value kept = keptValue(step, secret);
        if (kept == null) {
            return NONE;
        }
        readings.tell(step, secret, clock);
        return kept.text.at(i);
    }

    public int audit(int i, int what) {
        return readings.cell(i, what);
    }

    public int log(int step) {
        int answer = logFromTape(findStep(step));
        tape.clear();
        return answer;
    }

    public int close(int step) {
        Step found = findStep(step);
        if (found == null || found.log.closed) {
            return NONE;
        }
        gatherForms();
        found.log.end(forms);
        return found.log.told.length();
    }

    public int told(int step, int i) {
        Step found = findStep(step);
        return found == null ? NONE : found.log.told.at(i);
    }

    public int about(int step, int what) {
        Step found = findStep(step);
        if (found == null) {
            return NONE;
        }
        switch (what) {
            case 0:
                return found.log.told.length();
            case 1:
                return found.log.heldCount();
            case 2:
                return found.log.covered;
            default:
                return NONE;
        }
    }

    public int token(int step, int secret, int ticks) {
        Value kept = keptValue(step, secret);
        if (kept == null || ticks < 1 || ticks > MOST_TICKS || tokenCount >= tokens.length) {
            return NONE;
        }
        tokens[tokenCount] = new Token(secret, kept, clock + ticks);
        tokenCount++;
        return tokenCount - 1;
    }

    public boolean good(int token) {
        if (token < 0 || token >= tokenCount || token >= tokens.length) {
            return false;
        }
        Token made = tokens[token];
        if (made == null) {
            return false;
        }
        Secret owner = findSecret(made.secret);
        return clock < made.end && owner != null && !owner.revoked && owner.stillHas(made.value);
    }

    public int scan() {
        gatherForms();
        int place = NONE;
        for (int at = 0; at < tape.length() && place == NONE; at++) {
            int found = forms.longestWhole(tape, at);
            if (found != NONE) {
                place = at;
                rememberLeak(found);
            }
        }
        tape.clear();
        return place;
    }

    public int leak(int what) {
        switch (what) {
            case 0:
                return leakSecret;
            case 1:
                return leakForm;
            case 2:
                return leakOld;
            default:
                return NONE;
        }
    }

    private static boolean isBit(int n) {
        return n >= 0 && n <= HIGHEST_BIT;
    }

    private Secret findSecret(int number) {
        return number < 0 || number >= secretCount || number >= secrets.length ? null : secrets[number];
    }

    private Step findStep(int number) {
        return number < 0 || number >= stepCount || number >= steps.length ? null : steps[number];
    }

    private Value keptValue(int step, int secret) {
        Step found = findStep(step);
        return found == null ? null : found.keptOf(secret);
    }

    private int setFromTape(Secret owner, int ticks) {
        if (owner == null || owner.revoked || ticks < 0 || ticks > MOST_TICKS) {
            return -1;
        }
        if (!tapeCanBeValue()) {
            return -2;
        }
        if (tapeIsHad()) {
            return -3;
        }
        if (valueCount >= MOST_VALUES) {
            return -4;
        }
        owner.rotate(new Value(valueCount, tape), clock + ticks);
        valueCount++;
        return 1;
    }

    private int logFromTape(Step found) {
        if (found == null || !found.log.takes(tape.length())) {
            return NONE;
        }
        // Without a character nothing is looked at anew, though other FORMS may count by now.
        if (tape.length() > 0) {
            gatherForms();
            found.log.come(tape, forms);
        }
        return tape.length();
    }

    private boolean tapeCanBeValue() {
        return tape.length() >= SHORTEST_VALUE && tape.length() <= LONGEST_VALUE && !tape.has(BLANK);
    }

    /** An OLD one whose time is over doesn't count any more, but its SECRET has it still. */
    private boolean tapeIsHad() {
        for (int i = 0; i < secretCount; i++) {
            Secret one = findSecret(i);
            if (one != null && one.has(tape)) {
                return true;
            }
        }
        return false;
    }

    private void keepSeen(Step begun, int environment, int branch, int job) {
        for (int i = 0; i < secretCount; i++) {
            Secret one = findSecret(i);
            if (one != null && !one.revoked && one.isFor(environment, branch, job)) {
                begun.keep(i, one.value);
            }
        }
    }

    /** In the order in which a leak prefers them: by SECRETS, what was set first before the rest. */
    private void gatherForms() {
        forms.clear();
        for (int i = 0; i < secretCount; i++) {
            Secret one = findSecret(i);
            if (one != null && one.old != null && clock < one.oldEnd) {
                forms.addAll(i, one.old, 1);
            }
            if (one != null && one.value != null) {
                forms.addAll(i, one.value, 0);
            }
        }
    }

    private void rememberLeak(int form) {
        leakSecret = forms.ownerOf(form);
        leakForm = forms.kindOf(form);
        leakOld = forms.oldOf(form);
    }

    /** A row of characters with room for so many and no more. */
    private static final class Text {
        private final char[] row;
        private int length;

        Text(int room) {
            row = new char[Math.max(room, 0)];
        }

        int length() {
            return length;
        }

        int at(int i) {
            return i < 0 || i >= length || i >= row.length ? NONE : row[i];
        }

        boolean add(int c) {
            if (length >= row.length) {
                return false;
            }
            row[length] = (char) c;
            length++;
            return true;
        }

        void addAll(Text other) {
            for (int i = 0; i < other.length; i++) {
                add(other.at(i));
            }
        }

        void clear() {
            length = 0;
        }

        boolean has(char c) {
            for (int i = 0; i < length; i++) {
                if (at(i) == c) {
                    return true;
                }
            }
            return false;
        }

        boolean isLike(Text other) {
            return length == other.length && agrees(other, 0);
        }

        /** Whether this and another one from a place on are the same as far as both of them go. */
        boolean agrees(Text other, int from) {
            int both = Math.min(length, other.length - from);
            for (int i = 0; i < both; i++) {
                if (at(i) != other.at(from + i)) {
                    return false;
                }
            }
            return true;
        }
    }

    /** A text that was set for a SECRET; its number tells it from the same text set anew. */
    private static final class Value {
        private final int number;
        private final Text text;
        private final Text fromTheEnd;
        private final Text byCodes;

        Value(int number, Text source) {
            this.number = number;
            text = new Text(source.length());
            text.addAll(source);
            fromTheEnd = turned(source);
            byCodes = codesOf(source);
        }

        private static Text turned(Text source) {
            Text form = new Text(source.length());
            for (int i = source.length() - 1; i >= 0; i--) {
                form.add(source.at(i));
            }
            return form;
        }

        private static Text codesOf(Text source) {
            Text form = new Text(2 * source.length());
            for (int i = 0; i < source.length(); i++) {
                form.add(digit(source.at(i) >> 4));
                form.add(digit(source.at(i) & 15));
            }
            return form;
        }

        private static int digit(int n) {
            return n < 10 ? '0' + n : 'a' + n - 10;
        }
    }

    private static final class Secret {
        private final int environments;
        private final int branches;
        private final int jobs;
        private Value value;
        private Value old;
        private int oldEnd;
        private boolean revoked;

        Secret(int environments, int branches, int jobs) {
            this.environments = environments;
            this.branches = branches;
            this.jobs = jobs;
        }

        boolean isFor(int environment, int branch, int job) {
            return (environments >> environment & branches >> branch & jobs >> job & 1) == 1;
        }

        void rotate(Value next, int end) {
            if (value != null) {
                old = value;
                oldEnd = end;
            }
            value = next;
        }

        boolean has(Text text) {
            return value != null && value.text.isLike(text) || old != null && old.text.isLike(text);
        }

        boolean stillHas(Value kept) {
            return value != null && value.number == kept.number;
        }
    }

    private static final class Step {
        private final Value[] kept;
        private final Log log;

        Step() {
            kept = new Value[MOST_SECRETS];
            log = new Log();
        }

        void keep(int secret, Value value) {
            if (secret >= 0 && secret < kept.length) {
                kept[secret] = value;
            }
        }

        Value keptOf(int secret) {
            return secret < 0 || secret >= kept.length ? null : kept[secret];
        }

        int seenAt(int i) {
            int seen = 0;
            for (int secret = 0; secret < kept.length; secret++) {
                if (kept[secret] != null) {
                    if (seen == i) {
                        return secret;
                    }
                    seen++;
                }
            }
            return NONE;
        }
    }

    /** What came, and what is told of it; what came behind 'done' is HELD. */
    private static final class Log {
        private final Text came;
        private final Text told;
        private int done;
        private int covered;
        private boolean closed;

        Log() {
            came = new Text(TEXT_ROOM);
            told = new Text(TEXT_ROOM);
        }

        boolean takes(int count) {
            return !closed && count <= TEXT_ROOM - came.length();
        }

        int heldCount() {
            return came.length() - done;
        }

        /**
         * Looks once when all have come: while the FORMS stay the same, what is told or taken
         * after one character is told or taken after the others too.
         */
        void come(Text tape, Forms forms) {
            came.addAll(tape);
            cover(forms, false);
        }

        void end(Forms forms) {
            cover(forms, true);
            closed = true;
        }

        private void cover(Forms forms, boolean last) {
            for (int turn = 0; turn < TEXT_ROOM && done < came.length(); turn++) {
                if (!last && forms.mayCome(came, done)) {
                    return;
                }
                int found = forms.longestWhole(came, done);
                if (found == NONE) {
                    told.add(came.at(done));
                    done++;
                } else {
                    tellStars();
                    done += forms.lengthOf(found);
                    covered++;
                }
            }
        }

        private void tellStars() {
            for (int i = 0; i < STARS; i++) {
                told.add(STAR);
            }
        }
    }

    private static final class Token {
        private final int secret;
        private final Value value;
        private final int end;

        Token(int secret, Value value, int end) {
            this.secret = secret;
            this.value = value;
            this.end = end;
        }
    }

    private static final class Audit {
        private final int[] cells;
        private int rows;

        Audit() {
            cells = new int[AUDIT_ROOM * AUDIT_COLUMNS];
        }

        void tell(int step, int secret, int clock) {
            int at = rows * AUDIT_COLUMNS;
            if (at < 0 || at + 2 >= cells.length) {
                return;
            }
            cells[at] = step;
            cells[at + 1] = secret;
            cells[at + 2] = clock;
            rows++;
        }

        int cell(int row, int column) {
            if (row < 0 || row >= rows || column < 0 || column >= AUDIT_COLUMNS) {
                return NONE;
            }
            int at = row * AUDIT_COLUMNS + column;
            return at < 0 || at >= cells.length ? NONE : cells[at];
        }
    }

    /** The FORMS that count at a time, those that a leak prefers first. */
    private static final class Forms {
        private final Text[] texts;
        private final int[] owners;
        private final int[] kinds;
        private final int[] olds;
        private int count;

        Forms() {
            texts = new Text[MOST_FORMS];
            owners = new int[MOST_FORMS];
            kinds = new int[MOST_FORMS];
            olds = new int[MOST_FORMS];
        }

        void clear() {
            count = 0;
        }

        void addAll(int secret, Value value, int old) {
            add(value.text, secret, AS_IT_IS, old);
            add(value.fromTheEnd, secret, FROM_THE_END, old);
            add(value.byCodes, secret, BY_CODES, old);
        }

        private void add(Text text, int secret, int kind, int old) {
            if (count < 0 || count >= MOST_FORMS) {
                return;
            }
            texts[count] = text;
            owners[count] = secret;
            kinds[count] = kind;
            olds[count] = old;
            count++;
        }

        int ownerOf(int form) {
            return isThere(form) ? owners[form] : NONE;
        }

        int kindOf(int form) {
            return isThere(form) ? kinds[form] : NONE;
        }

        int oldOf(int form) {
            return isThere(form) ? olds[form] : NONE;
        }

        int lengthOf(int form) {
            Text text = textOf(form);
            return text == null ? 0 : text.length();
        }

        /** The longest FORM that is there whole from a place on; of like ones the first. */
        int longestWhole(Text text, int from) {
            int rest = text.length() - from;
            int longest = NONE;
            int most = 0;
            for (int form = 0; form < count; form++) {
                Text one = textOf(form);
                if (one != null && one.length() > most && one.length() <= rest && one.agrees(text, from)) {
                    longest = form;
                    most = one.length();
                }
            }
            return longest;
        }

        /** Whether the text from a place till its end is the beginning of a longer FORM. */
        boolean mayCome(Text text, int from) {
            int rest = text.length() - from;
            for (int form = 0; form < count; form++) {
                Text one = textOf(form);
                if (one != null && one.length() > rest && one.agrees(text, from)) {
                    return true;
                }
            }
            return false;
        }

        private boolean isThere(int form) {
            return form >= 0 && form < count && form < MOST_FORMS;
        }

        private Text textOf(int form) {
            return isThere(form) ? texts[form] : null;
        }
    }
}
