/** The calls of README.md's example, with the answers that stand there: change both together. */
public final class ReadmeTest {
    private static int wrong = 0;

    public static void main(String[] args) {
        SecretRows rows = new SecretRows();
        int secret = rows.secret(1, 255, 6);
        due("secret", secret, 0);
        type(rows, "hunter2");
        due("set", rows.set(secret, 0), 1);

        int step = rows.step(0, 3, 1, false);
        due("step", step, 0);
        due("sees", rows.sees(step, 0), 0);
        due("read", rows.read(step, secret, 0), 'h');
        due("audit", rows.audit(0, 1), 0);

        logInPieces(rows, step);
        rotate(rows, step, secret);
        scan(rows);

        System.out.println(wrong == 0 ? "README.md's example holds" : wrong + " answers of README.md's example are wrong");
        if (wrong != 0) {
            System.exit(1);
        }
    }

    private static void logInPieces(SecretRows rows, int step) {
        type(rows, "pw=hun");
        due("log", rows.log(step), 6);
        due("about", rows.about(step, 1), 3);
        type(rows, "ter2.");
        due("log", rows.log(step), 5);
        due("close", rows.close(step), 7);
        due("told", rows.told(step, 3), '*');
        StringBuilder told = new StringBuilder();
        for (int i = 0; i < 7; i++) {
            told.append((char) rows.told(step, i));
        }
        if (!told.toString().equals("pw=***.")) {
            due("told " + told, 0, 1);
        }
    }

    private static void rotate(SecretRows rows, int step, int secret) {
        int token = rows.token(step, secret, 10);
        due("token", token, 0);
        due("good", rows.good(token) ? 1 : 0, 1);
        type(rows, "swordfish");
        due("set", rows.set(secret, 5), 1);
        due("good", rows.good(token) ? 1 : 0, 0);
    }

    private static void scan(SecretRows rows) {
        type(rows, "see 2retnuh");
        due("scan", rows.scan(), 4);
        due("leak(0)", rows.leak(0), 0);
        due("leak(1)", rows.leak(1), 1);
        due("leak(2)", rows.leak(2), 1);
        due("tick", rows.tick(5), 5);
        type(rows, "see 2retnuh");
        due("scan", rows.scan(), SecretRows.NONE);
    }

    private static void type(SecretRows rows, String text) {
        for (char c : text.toCharArray()) {
            due("type", rows.type(c) ? 1 : 0, 1);
        }
    }

    private static void due(String call, int got, int want) {
        if (got != want) {
            wrong++;
            System.out.println(call + " answered " + got + ", due is " + want);
        }
    }
}
