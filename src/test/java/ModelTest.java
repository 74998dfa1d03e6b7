import java.util.ArrayList;
import java.util.List;
import java.util.Random;

/**
 * Long made-up runs against a second, slow telling of the document, written over Strings and
 * character by character. The seeds are fixed, so every run is the same each time.
 */
public final class ModelTest {
    private static final int RUNS = 6000;
    private static final int CALLS = 512;
    private static final String[] ALPHABETS = {"ab", "abc", "3", "36", "6a1", "abcdef0123456789", "xyz!~ "};

    public static void main(String[] args) {
        int wrong = 0;
        for (int seed = 0; seed < RUNS && wrong < 5; seed++) {
            Run run = new Run(seed);
            if (!run.agrees()) {
                wrong++;
                System.out.println("seed " + seed + ": " + run.trouble);
            }
        }
        System.out.println(wrong == 0 ? RUNS + " runs agree" : "runs differ");
        if (wrong != 0) {
            System.exit(1);
        }
    }

    private static final class Run {
        private final Random random;
        private final String alphabet;
        private final SecretRows real = new SecretRows();
        private final Model model = new Model();
        private int calls = 0;
        private String trouble = null;

        Run(int seed) {
            random = new Random(seed);
            alphabet = ALPHABETS[random.nextInt(ALPHABETS.length)];
        }

        boolean agrees() {
            while (trouble == null && calls < CALLS) {
                turn();
            }
            return trouble == null;
        }

        private void compare(String call, int got, int want) {
            calls++;
            if (got != want && trouble == null) {
                trouble = "call " + calls + ", " + call + " answered " + got + ", due is " + want;
            }
        }

        private int some(int most) {
            return random.nextInt(40) == 0 ? wild() : random.nextInt(most + 1);
        }

        private int wild() {
            int[] wild = {-1, -2, 8, 10, 12, 20, 100, 300, Integer.MIN_VALUE, Integer.MAX_VALUE};
            return wild[random.nextInt(wild.length)];
        }

        private int oneOf(int count) {
            return some(Math.max(0, count - 1));
        }

        private int ticks() {
            int[] ticks = {0, 1, 2, 3, 5, 8, 100000};
            return random.nextInt(30) == 0 ? (random.nextBoolean() ? wild() : 100001) : ticks[random.nextInt(ticks.length)];
        }

        private int rules() {
            return random.nextInt(3) == 0 ? random.nextInt() : -1;
        }

        private char letter() {
            return alphabet.charAt(random.nextInt(alphabet.length()));
        }

        private String letters(int count) {
            StringBuilder text = new StringBuilder();
            for (int i = 0; i < count; i++) {
                text.append(letter());
            }
            return text.toString();
        }

        /** Mostly pieces of FORMS, so that they begin, overlap, and break off. */
        private String piece() {
            List<Form> forms = new ArrayList<>();
            for (MSecret secret : model.secrets) {
                for (String value : new String[] {secret.value, secret.old}) {
                    if (value != null) {
                        for (int kind = 0; kind < 3; kind++) {
                            forms.add(new Form(0, kind, 0, Model.form(value, kind)));
                        }
                    }
                }
            }
            if (forms.isEmpty() || random.nextInt(4) == 0) {
                return letters(random.nextInt(4));
            }
            String text = forms.get(random.nextInt(forms.size())).text;
            int from = random.nextInt(4) == 0 ? random.nextInt(text.length()) : 0;
            int to = random.nextInt(2) == 0 ? text.length() : from + random.nextInt(text.length() - from + 1);
            return text.substring(from, to);
        }

        private void typeAll(String text) {
            for (int i = 0; i < text.length() && calls < CALLS; i++) {
                typeOne(text.charAt(i));
            }
        }

        private void typeOne(char c) {
            compare("type(" + (int) c + ")", real.type(c) ? 1 : 0, model.type(c) ? 1 : 0);
        }

        private void typePieces() {
            int count = 1 + random.nextInt(3);
            for (int i = 0; i < count; i++) {
                typeAll(piece());
            }
        }

        private void turn() {
            int what = random.nextInt(100);
            if (what < 5) {
                int e = rules();
                int b = rules();
                int j = rules();
                compare("secret", real.secret(e, b, j), model.secret(e, b, j));
            } else if (what < 17) {
                typeAll(random.nextInt(4) == 0 ? piece() : letters(4 + random.nextInt(random.nextInt(3) == 0 ? 10 : 3)));
                int secret = oneOf(model.secrets.size());
                int ticks = ticks();
                compare("set(" + secret + ", " + ticks + ")", real.set(secret, ticks), model.set(secret, ticks));
            } else if (what < 18) {
                int secret = oneOf(model.secrets.size());
                compare("revoke", real.revoke(secret) ? 1 : 0, model.revoke(secret) ? 1 : 0);
            } else if (what < 26) {
                int n = ticks();
                compare("tick(" + n + ")", real.tick(n), model.tick(n));
            } else if (what < 31) {
                int e = some(7);
                int b = some(7);
                int j = some(7);
                boolean outside = random.nextInt(6) == 0;
                compare("step", real.step(e, b, j, outside), model.step(e, b, j, outside));
            } else if (what < 55) {
                typePieces();
                int step = oneOf(Math.min(2, model.steps.size()));
                compare("log(" + step + ")", real.log(step), model.log(step));
                lookAt(step);
            } else if (what < 57) {
                int step = oneOf(model.steps.size());
                compare("close(" + step + ")", real.close(step), model.close(step));
                lookAt(step);
            } else if (what < 72) {
                typePieces();
                compare("scan", real.scan(), model.scan());
                lookAtLeak();
            } else if (what < 73) {
                typeOne((char) random.nextInt(65536));
            } else if (what < 74) {
                int leak = wild();
                compare("leak(" + leak + ")", real.leak(leak), model.leak(leak));
            } else {
                ask(what);
            }
        }

        private void ask(int what) {
            int step = oneOf(model.steps.size());
            int secret = oneOf(model.secrets.size());
            if (what < 79) {
                int i = some(9);
                compare("sees(" + step + ", " + i + ")", real.sees(step, i), model.sees(step, i));
            } else if (what < 84) {
                int i = some(13);
                compare("read(" + step + ", " + secret + ", " + i + ")", real.read(step, secret, i), model.read(step, secret, i));
            } else if (what < 88) {
                int i = oneOf(model.rows.size());
                int column = some(3);
                compare("audit(" + i + ", " + column + ")", real.audit(i, column), model.audit(i, column));
            } else if (what < 93) {
                int ticks = ticks();
                compare("token(" + step + ", " + secret + ", " + ticks + ")", real.token(step, secret, ticks), model.token(step, secret, ticks));
            } else {
                int token = oneOf(model.tokens.size());
                compare("good(" + token + ")", real.good(token) ? 1 : 0, model.good(token) ? 1 : 0);
            }
        }

        private void lookAt(int step) {
            for (int what = 0; what < 3; what++) {
                compare("about(" + step + ", " + what + ")", real.about(step, what), model.about(step, what));
            }
            int told = model.about(step, 0);
            for (int i = Math.max(0, told - 6); i <= told; i++) {
                compare("told(" + step + ", " + i + ")", real.told(step, i), model.told(step, i));
            }
        }

        private void lookAtLeak() {
            for (int what = 0; what < 3; what++) {
                compare("leak(" + what + ")", real.leak(what), model.leak(what));
            }
        }
    }

    private record Form(int secret, int kind, int old, String text) { }

    private static final class MSecret {
        private int[] rules;
        private String value;
        private String old;
        private int version;
        private int oldTill;
        private boolean revoked;
    }

    private static final class MStep {
        private final String[] kept = new String[10];
        private final int[] versions = new int[10];
        private String text = "";
        private String told = "";
        private String held = "";
        private int covered;
        private boolean closed;
    }

    private record MToken(int secret, int version, int end) { }

    private static final class Model {
        private final List<MSecret> secrets = new ArrayList<>();
        private final List<MStep> steps = new ArrayList<>();
        private final List<MToken> tokens = new ArrayList<>();
        private final List<int[]> rows = new ArrayList<>();
        private String tape = "";
        private int versions = 0;
        private int clock = 0;
        private Form leak = null;

        int secret(int environments, int branches, int jobs) {
            if (secrets.size() == 10) {
                return -1;
            }
            MSecret secret = new MSecret();
            secret.rules = new int[] {environments, branches, jobs};
            secrets.add(secret);
            return secrets.size() - 1;
        }

        boolean type(char c) {
            if (c < 32 || c > 126 || tape.length() == 300) {
                return false;
            }
            tape += c;
            return true;
        }

        private String takeTape() {
            String text = tape;
            tape = "";
            return text;
        }

        int set(int secret, int ticks) {
            String text = takeTape();
            if (!in(secret, secrets) || secrets.get(secret).revoked || ticks < 0 || ticks > 100000) {
                return -1;
            }
            if (text.length() < 4 || text.length() > 12 || text.contains(" ")) {
                return -2;
            }
            for (MSecret other : secrets) {
                if (text.equals(other.value) || text.equals(other.old)) {
                    return -3;
                }
            }
            if (versions == 24) {
                return -4;
            }
            MSecret mine = secrets.get(secret);
            if (mine.value != null) {
                mine.old = mine.value;
                mine.oldTill = clock + ticks;
            }
            mine.value = text;
            mine.version = ++versions;
            return 1;
        }

        boolean revoke(int secret) {
            if (!in(secret, secrets) || secrets.get(secret).revoked) {
                return false;
            }
            secrets.get(secret).revoked = true;
            return true;
        }

        int tick(int n) {
            if (n < 0 || n > 100000 || (long) clock + n > 1000000000L) {
                return -1;
            }
            return clock += n;
        }

        int step(int environment, int branch, int job, boolean outside) {
            int[] bits = {environment, branch, job};
            for (int bit : bits) {
                if (bit < 0 || bit > 7) {
                    return -1;
                }
            }
            if (steps.size() == 12) {
                return -1;
            }
            MStep step = new MStep();
            for (int i = 0; i < secrets.size(); i++) {
                MSecret secret = secrets.get(i);
                boolean seen = !outside && secret.value != null && !secret.revoked;
                for (int k = 0; k < 3; k++) {
                    seen = seen && (secret.rules[k] & 1 << bits[k]) != 0;
                }
                if (seen) {
                    step.kept[i] = secret.value;
                    step.versions[i] = secret.version;
                }
            }
            steps.add(step);
            return steps.size() - 1;
        }

        int sees(int step, int i) {
            if (!in(step, steps)) {
                return -1;
            }
            List<Integer> seen = new ArrayList<>();
            for (int secret = 0; secret < 10; secret++) {
                if (steps.get(step).kept[secret] != null) {
                    seen.add(secret);
                }
            }
            return in(i, seen) ? seen.get(i) : -1;
        }

        private boolean isSeen(int step, int secret) {
            return in(step, steps) && secret >= 0 && secret < 10 && steps.get(step).kept[secret] != null;
        }

        int read(int step, int secret, int i) {
            if (!isSeen(step, secret)) {
                return -1;
            }
            if (rows.size() < 200) {
                rows.add(new int[] {step, secret, clock});
            }
            String value = steps.get(step).kept[secret];
            return i >= 0 && i < value.length() ? value.charAt(i) : -1;
        }

        int audit(int i, int what) {
            return in(i, rows) && what >= 0 && what < 3 ? rows.get(i)[what] : -1;
        }

        int log(int step) {
            String text = takeTape();
            if (!in(step, steps) || steps.get(step).closed || steps.get(step).text.length() + text.length() > 300) {
                return -1;
            }
            MStep mine = steps.get(step);
            for (int i = 0; i < text.length(); i++) {
                mine.text += text.charAt(i);
                mine.held += text.charAt(i);
                cover(mine, true);
            }
            return text.length();
        }

        int close(int step) {
            if (!in(step, steps) || steps.get(step).closed) {
                return -1;
            }
            cover(steps.get(step), false);
            steps.get(step).closed = true;
            return steps.get(step).told.length();
        }

        private void cover(MStep step, boolean more) {
            while (!step.held.isEmpty()) {
                String whole = null;
                boolean longer = false;
                boolean beginning = false;
                for (Form form : counting()) {
                    if (step.held.startsWith(form.text) && (whole == null || form.text.length() > whole.length())) {
                        whole = form.text;
                    }
                }
                for (Form form : counting()) {
                    boolean may = more && form.text.length() > step.held.length() && form.text.startsWith(step.held);
                    longer = longer || may && whole != null && form.text.length() > whole.length();
                    beginning = beginning || may;
                }
                if (whole != null && !longer) {
                    step.told += "***";
                    step.covered++;
                    step.held = step.held.substring(whole.length());
                } else if (beginning) {
                    return;
                } else {
                    step.told += step.held.charAt(0);
                    step.held = step.held.substring(1);
                }
            }
        }

        int told(int step, int i) {
            return in(step, steps) && i >= 0 && i < steps.get(step).told.length() ? steps.get(step).told.charAt(i) : -1;
        }

        int about(int step, int what) {
            if (!in(step, steps) || what < 0 || what > 2) {
                return -1;
            }
            MStep mine = steps.get(step);
            return new int[] {mine.told.length(), mine.held.length(), mine.covered}[what];
        }

        int token(int step, int secret, int ticks) {
            if (!isSeen(step, secret) || tokens.size() == 20 || ticks < 1 || ticks > 100000) {
                return -1;
            }
            tokens.add(new MToken(secret, steps.get(step).versions[secret], clock + ticks));
            return tokens.size() - 1;
        }

        boolean good(int token) {
            if (!in(token, tokens)) {
                return false;
            }
            MToken mine = tokens.get(token);
            MSecret secret = secrets.get(mine.secret);
            return clock < mine.end && !secret.revoked && secret.version == mine.version;
        }

        int scan() {
            String text = takeTape();
            for (int at = 0; at < text.length(); at++) {
                Form best = null;
                for (Form form : counting()) {
                    if (text.startsWith(form.text, at) && (best == null || better(form, best))) {
                        best = form;
                    }
                }
                if (best != null) {
                    leak = best;
                    return at;
                }
            }
            return -1;
        }

        private static boolean better(Form form, Form best) {
            if (form.text.length() != best.text.length()) {
                return form.text.length() > best.text.length();
            }
            if (form.secret != best.secret) {
                return form.secret < best.secret;
            }
            return form.old != best.old ? form.old > best.old : form.kind < best.kind;
        }

        int leak(int what) {
            return leak == null || what < 0 || what > 2 ? -1 : new int[] {leak.secret, leak.kind, leak.old}[what];
        }

        /** In no helpful order: better() alone tells which one a leak names. */
        private List<Form> counting() {
            List<Form> forms = new ArrayList<>();
            for (int i = secrets.size() - 1; i >= 0; i--) {
                MSecret secret = secrets.get(i);
                for (int kind = 2; kind >= 0; kind--) {
                    if (secret.value != null) {
                        forms.add(new Form(i, kind, 0, form(secret.value, kind)));
                    }
                    if (secret.old != null && clock < secret.oldTill) {
                        forms.add(new Form(i, kind, 1, form(secret.old, kind)));
                    }
                }
            }
            return forms;
        }

        static String form(String value, int kind) {
            StringBuilder text = new StringBuilder();
            for (int i = 0; i < value.length(); i++) {
                if (kind == 2) {
                    text.append(String.format("%02x", (int) value.charAt(i)));
                } else {
                    text.append(value.charAt(kind == 0 ? i : value.length() - 1 - i));
                }
            }
            return text.toString();
        }

        private static boolean in(int i, List<?> list) {
            return i >= 0 && i < list.size();
        }
    }
}
