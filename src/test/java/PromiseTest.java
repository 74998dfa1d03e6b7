/** For each promise: ordinary inputs, the edges that the document names, and wrong inputs. */
public final class PromiseTest {
    private static final int[] WRONG = {-1, Integer.MIN_VALUE, Integer.MAX_VALUE};

    private static int promise = 0;
    private static int checks = 0;
    private static int wrong = 0;

    public static void main(String[] args) {
        newObject();
        secret();
        type();
        set();
        setRefused();
        setAgainstOthers();
        setTwentyFour();
        revoke();
        tick();
        step();
        sees();
        read();
        audit();
        log();
        logForms();
        logOverlaps();
        logFormsOfTheTime();
        logRoom();
        close();
        told();
        about();
        token();
        good();
        scan();
        scanForAllThatCanBe();
        leak();
        System.out.println(checks + " checks, " + wrong + " wrong");
        if (wrong != 0) {
            System.exit(1);
        }
    }

    private static void due(String what, long got, long want) {
        checks++;
        if (got != want) {
            wrong++;
            System.out.println("promise " + promise + ": " + what + " answered " + got + ", due is " + want);
        }
    }

    private static void due(String what, boolean got, boolean want) {
        due(what, got ? 1 : 0, want ? 1 : 0);
    }

    private static void dueTold(String what, SecretRows x, int step, String want) {
        StringBuilder got = new StringBuilder();
        for (int i = 0; i < x.about(step, 0); i++) {
            got.append((char) x.told(step, i));
        }
        checks++;
        if (!got.toString().equals(want)) {
            wrong++;
            System.out.println("promise " + promise + ": " + what + " told '" + got + "', due is '" + want + "'");
        }
    }

    private static void typeAll(SecretRows x, String text) {
        for (int i = 0; i < text.length(); i++) {
            due("type of " + (int) text.charAt(i), x.type(text.charAt(i)), true);
        }
    }

    private static int setTo(SecretRows x, int secret, String text, int ticks) {
        typeAll(x, text);
        return x.set(secret, ticks);
    }

    private static int logOf(SecretRows x, int step, String text) {
        typeAll(x, text);
        return x.log(step);
    }

    private static int scanOf(SecretRows x, String text) {
        typeAll(x, text);
        return x.scan();
    }

    /** An object with SECRETS for all that have these VALUES, and a STEP that SEES them. */
    private static SecretRows with(String... values) {
        SecretRows x = new SecretRows();
        for (int i = 0; i < values.length; i++) {
            due("secret", x.secret(255, 255, 255), i);
            due("set of " + values[i], setTo(x, i, values[i], 0), 1);
        }
        due("step", x.step(0, 0, 0, false), 0);
        return x;
    }

    private static void newObject() {
        promise = 1;
        SecretRows x = new SecretRows();
        due("NONE", SecretRows.NONE, -1);
        due("tick(0)", x.tick(0), 0);
        due("sees", x.sees(0, 0), -1);
        due("read", x.read(0, 0, 0), -1);
        due("audit", x.audit(0, 0), -1);
        due("log", x.log(0), -1);
        due("close", x.close(0), -1);
        due("told", x.told(0, 0), -1);
        due("about", x.about(0, 0), -1);
        due("token", x.token(0, 0, 1), -1);
        due("good", x.good(0), false);
        due("revoke", x.revoke(0), false);
        due("scan", x.scan(), -1);
        for (int what = 0; what < 3; what++) {
            due("leak", x.leak(what), -1);
        }
        typeAll(x, "abcd");
        due("set without a secret", x.set(0, 0), -1);
        due("first secret", x.secret(0, 0, 0), 0);
        due("first step", x.step(0, 0, 0, false), 0);
        SecretRows y = new SecretRows();
        x.tick(5);
        due("another object's clock", y.tick(0), 0);
        due("another object's secrets", y.secret(0, 0, 0), 0);
        due("another object's steps", y.step(0, 0, 0, false), 0);
    }

    private static void secret() {
        promise = 2;
        SecretRows x = new SecretRows();
        for (int i = 0; i < 10; i++) {
            due("secret", x.secret(i % 2 == 0 ? -1 : Integer.MIN_VALUE, 255, 1 << i), i);
        }
        due("secret 11", x.secret(255, 255, 255), -1);
        due("secret 11 again", x.secret(0, 0, 0), -1);
        due("step", x.step(0, 0, 0, false), 0);
        due("a secret without a value", x.sees(0, 0), -1);
        due("set of the last", setTo(x, 9, "abcd", 0), 1);
        due("set of none", setTo(x, 10, "abce", 0), -1);
    }

    private static void type() {
        promise = 3;
        SecretRows x = new SecretRows();
        x.secret(255, 255, 255);
        due("31", x.type((char) 31), false);
        due("127", x.type((char) 127), false);
        due("0", x.type((char) 0), false);
        due("255", x.type((char) 255), false);
        due("65535", x.type((char) 65535), false);
        due("288", x.type((char) 288), false);
        due("32", x.type((char) 32), true);
        due("126", x.type((char) 126), true);
        due("step", x.step(0, 0, 0, false), 0);
        due("only the right ones came", x.log(0), 2);
        due("the first", x.told(0, 0), 32);
        due("the second", x.told(0, 1), 126);
        typeAll(x, "x".repeat(300));
        due("the 301st", x.type('x'), false);
        due("still", x.type('y'), false);
        due("no room for 300 behind 2", x.log(0), -1);
        due("empty then", x.type('x'), true);
        due("one is there", x.log(0), 1);
    }

    private static void set() {
        promise = 4;
        SecretRows x = new SecretRows();
        x.secret(255, 255, 255);
        due("four", setTo(x, 0, "!~ab", 0), 1);
        due("twelve", setTo(x, 0, "abcd1234ijkl", 100000), 1);
        due("old ends with its time", scanOf(x, "!~ab"), 0);
        due("was old", x.leak(2), 1);
        x.tick(99999);
        due("old counts till then", scanOf(x, "!~ab"), 0);
        x.tick(1);
        due("old is over", scanOf(x, "!~ab"), -1);
        due("third", setTo(x, 0, "efgh", 7), 1);
        due("first is free again", setTo(x, 0, "!~ab", 7), 1);
        due("old in place of another", scanOf(x, "abcd1234ijkl"), -1);
        due("efgh is old", scanOf(x, "efgh"), 0);
        SecretRows y = with("abcd");
        due("0 ticks", setTo(y, 0, "efgh", 0), 1);
        due("not for a tick", scanOf(y, "abcd"), -1);
        due("1 tick", setTo(y, 0, "ijkl", 1), 1);
        due("for a tick", scanOf(y, "efgh"), 0);
        due("the step keeps its own", y.read(0, 0, 0), 'a');
        due("a later step has the new one", y.step(0, 0, 0, false), 1);
        due("a later step reads", y.read(1, 0, 0), 'i');
    }

    private static void setRefused() {
        promise = 4;
        SecretRows x = new SecretRows();
        x.secret(255, 255, 255);
        for (int bad : WRONG) {
            due("no such secret", setTo(x, bad, "abcd", 0), -1);
            due("no such time", setTo(x, 0, "abcd", bad), -1);
        }
        due("one behind the last", setTo(x, 1, "abcd", 0), -1);
        due("100001", setTo(x, 0, "abcd", 100001), -1);
        due("-1 goes before -2", setTo(x, 1, "abc", 0), -1);
        due("empty", x.set(0, 0), -2);
        due("three", setTo(x, 0, "abc", 0), -2);
        due("thirteen", setTo(x, 0, "abcdefghijklm", 0), -2);
        due("a blank within", setTo(x, 0, "ab cd", 0), -2);
        due("a blank behind", setTo(x, 0, "abcd ", 0), -2);
        due("a blank before", setTo(x, 0, " abcd", 0), -2);
        due("blanks alone", setTo(x, 0, "    ", 0), -2);
        due("empty after each", setTo(x, 0, "abcd", 0), 1);
        due("empty after 1", x.set(0, 0), -2);
        due("revoke", x.revoke(0), true);
        due("revoked", setTo(x, 0, "efgh", 0), -1);
        due("step", x.step(0, 0, 0, false), 0);
        due("empty after -1", x.log(0), 0);
    }

    private static void setAgainstOthers() {
        promise = 4;
        SecretRows x = with("abcd", "efgh");
        due("its own", setTo(x, 0, "abcd", 5), -3);
        due("another's", setTo(x, 0, "efgh", 5), -3);
        due("the tape is empty then", x.log(0), 0);
        due("from its end", setTo(x, 0, "dcba", 5), 1);
        due("its own old one", setTo(x, 0, "abcd", 5), -3);
        due("another's old one", setTo(x, 1, "abcd", 5), -3);
        x.tick(6);
        due("an old one whose time is over", setTo(x, 1, "abcd", 5), -3);
        due("its own whose time is over", setTo(x, 0, "abcd", 5), -3);
        due("beginning of another", setTo(x, 1, "abcde", 5), 1);
        due("-2 goes before -3", setTo(x, 1, "abc", 5), -2);
        due("revoke", x.revoke(0), true);
        due("a revoked one's", setTo(x, 1, "dcba", 5), -3);
        due("a revoked one's old", setTo(x, 1, "abcd", 5), -3);
        due("a value without one before", x.secret(0, 0, 0), 2);
        due("is set", setTo(x, 2, "wxyz", 5), 1);
        due("and has no old one", scanOf(x, "wxyz"), 0);
        due("is none", x.leak(2), 0);
    }

    private static void setTwentyFour() {
        promise = 4;
        SecretRows x = new SecretRows();
        x.secret(255, 255, 255);
        x.secret(255, 255, 255);
        for (int i = 0; i < 24; i++) {
            due("set " + i, setTo(x, i % 2, "val" + (char) ('a' + i), 0), 1);
            due("refused ones aren't counted", x.set(i % 2, 0), -2);
        }
        due("step", x.step(0, 0, 0, false), 0);
        due("the 25th", setTo(x, 0, "valy", 0), -4);
        due("the tape is empty then", x.log(0), 0);
        due("-3 goes before -4", setTo(x, 0, "valx", 0), -3);
        due("-2 goes before -4", setTo(x, 0, "val", 0), -2);
        due("-1 goes before -4", setTo(x, 2, "valy", 0), -1);
        due("the last stays", scanOf(x, "valx"), 0);
        due("the last but two is old and over", scanOf(x, "valv"), -1);
    }

    private static void revoke() {
        promise = 5;
        SecretRows x = with("abcd", "efgh");
        for (int bad : WRONG) {
            due("no such secret", x.revoke(bad), false);
        }
        due("one behind the last", x.revoke(2), false);
        due("set", setTo(x, 0, "ijkl", 3), 1);
        due("revoke", x.revoke(0), true);
        due("again", x.revoke(0), false);
        due("its forms count", scanOf(x, "ijkl"), 0);
        due("its old ones too", scanOf(x, "lkji dcba"), 0);
        due("its old one till its time", scanOf(x, "dcba"), 0);
        x.tick(3);
        due("and no longer", scanOf(x, "dcba"), -1);
        due("and its value still", scanOf(x, "lkji"), 0);
        due("the earlier step sees it", x.sees(0, 0), 0);
        due("a step", x.step(0, 0, 0, false), 1);
        due("sees the other alone", x.sees(1, 0), 1);
        due("and no more", x.sees(1, 1), -1);
        due("without a value", x.secret(255, 255, 255), 2);
        due("revoked", x.revoke(2), true);
        due("for good", setTo(x, 2, "mnop", 0), -1);
    }

    private static void tick() {
        promise = 6;
        SecretRows x = new SecretRows();
        due("100000", x.tick(100000), 100000);
        due("0", x.tick(0), 100000);
        due("100001", x.tick(100001), -1);
        for (int bad : WRONG) {
            due("wrong", x.tick(bad), -1);
        }
        due("it stayed", x.tick(1), 100001);
        for (int i = 0; i < 500; i++) {
            x.tick(100000);
        }
        due("it goes on", x.tick(7), 50100008);
    }

    private static void step() {
        promise = 7;
        SecretRows x = new SecretRows();
        for (int bad : new int[] {-1, 8, Integer.MIN_VALUE, Integer.MAX_VALUE}) {
            due("environment", x.step(bad, 0, 0, false), -1);
            due("branch", x.step(0, bad, 0, false), -1);
            due("job", x.step(0, 0, bad, true), -1);
        }
        for (int i = 0; i < 12; i++) {
            due("step", x.step(i % 8, 7 - i % 8, i % 5, i % 3 == 0), i);
        }
        due("the 13th", x.step(0, 0, 0, false), -1);
        due("the last is there", x.about(11, 0), 0);
        due("the 13th isn't", x.about(12, 0), -1);
    }

    private static void sees() {
        promise = 8;
        SecretRows x = new SecretRows();
        x.secret(1 << 3, 1 << 5, 1 << 7);
        x.secret(~(1 << 3), 255, 255);
        x.secret(255, ~(1 << 5), 255);
        x.secret(255, 255, ~(1 << 7));
        x.secret(-1, -1, -1);
        x.secret(255, 255, 255);
        x.secret(255 << 8, 255 << 8, 255 << 8);
        for (int i = 0; i < 7; i++) {
            due("set", i == 5 ? 1 : setTo(x, i, "sec" + i, 0), 1);
        }
        due("step", x.step(3, 5, 7, false), 0);
        due("all three bits", x.sees(0, 0), 0);
        due("and", x.sees(0, 1), 4);
        due("no more", x.sees(0, 2), -1);
        due("from outside", x.step(3, 5, 7, true), 1);
        due("sees none", x.sees(1, 0), -1);
        due("others", x.step(5, 3, 6, false), 2);
        due("1", x.sees(2, 0), 1);
        due("2", x.sees(2, 1), 2);
        due("3", x.sees(2, 2), 3);
        due("4", x.sees(2, 3), 4);
        due("end", x.sees(2, 4), -1);
        for (int bad : WRONG) {
            due("no such step", x.sees(bad, 0), -1);
            due("no such i", x.sees(0, bad), -1);
        }
        due("one behind the last step", x.sees(3, 0), -1);
        due("set later", setTo(x, 5, "late", 0), 1);
        due("isn't seen", x.sees(0, 2), -1);
        due("is, later", x.step(3, 5, 7, false), 3);
        due("by numbers", x.sees(3, 2), 5);
    }

    private static void read() {
        promise = 9;
        SecretRows x = with("!bc~", "efgh");
        due("first", x.read(0, 0, 0), '!');
        due("last", x.read(0, 0, 3), '~');
        due("behind", x.read(0, 0, 4), -1);
        due("another", x.read(0, 1, 1), 'f');
        due("rotated", setTo(x, 0, "zyxwv", 0), 1);
        due("as it keeps it", x.read(0, 0, 0), '!');
        due("with its length", x.read(0, 0, 4), -1);
        due("revoked", x.revoke(0), true);
        due("as it keeps it still", x.read(0, 0, 1), 'b');
        for (int bad : WRONG) {
            due("no such i", x.read(0, 1, bad), -1);
            due("no such step", x.read(bad, 0, 0), -1);
            due("no such secret", x.read(0, bad, 0), -1);
        }
        due("secret behind the last", x.read(0, 2, 0), -1);
        due("secret that can't be", x.read(0, 10, 0), -1);
        due("step behind the last", x.read(1, 0, 0), -1);
        due("outside", x.step(0, 0, 0, true), 1);
        due("sees none", x.read(1, 1, 0), -1);
        due("only what it sees is told", x.audit(9, 0), 0);
        due("wrong i too", x.audit(10, 0), -1);
    }

    private static void audit() {
        promise = 10;
        SecretRows x = with("abcd", "efgh");
        due("step", x.step(0, 0, 0, false), 1);
        due("none yet", x.audit(0, 0), -1);
        x.read(1, 0, 0);
        x.tick(77);
        x.read(0, 1, -5);
        int[] rows = {1, 0, 0, 0, 1, 77};
        for (int i = 0; i < rows.length; i++) {
            due("audit(" + i / 3 + ", " + i % 3 + ")", x.audit(i / 3, i % 3), rows[i]);
        }
        due("none behind", x.audit(2, 0), -1);
        for (int bad : WRONG) {
            due("no such row", x.audit(bad, 0), -1);
            due("no such what", x.audit(0, bad), -1);
        }
        due("no such what 3", x.audit(0, 3), -1);
        for (int i = 2; i < 200; i++) {
            x.read(0, 0, 0);
        }
        x.tick(1);
        due("reading goes on", x.read(1, 1, 0), 'e');
        due("the last row", x.audit(199, 2), 77);
        due("its step", x.audit(199, 0), 0);
        due("others are lost", x.audit(200, 0), -1);
    }

    private static void log() {
        promise = 11;
        SecretRows x = with("secret");
        due("plain", logOf(x, 0, "a b"), 3);
        dueTold("plain", x, 0, "a b");
        due("nothing", x.log(0), 0);
        due("in pieces", logOf(x, 0, "xsec"), 4);
        dueTold("held", x, 0, "a bx");
        due("goes on", logOf(x, 0, "re"), 2);
        dueTold("held still", x, 0, "a bx");
        due("ends", logOf(x, 0, "ty"), 2);
        dueTold("covered", x, 0, "a bx***y");
        for (int bad : new int[] {-1, 1, 12, Integer.MIN_VALUE, Integer.MAX_VALUE}) {
            due("no such step", logOf(x, bad, "lost"), -1);
        }
        due("the tape was empty then", x.log(0), 0);
        dueTold("none came", x, 0, "a bx***y");
        due("another step", x.step(0, 0, 0, true), 1);
        due("has its own log", logOf(x, 1, "secretsecret"), 12);
        dueTold("from outside too", x, 1, "******");
        due("close", x.close(1), 6);
        due("closed", logOf(x, 1, "more"), -1);
        due("closed, with nothing", x.log(1), -1);
        dueTold("none came to it", x, 1, "******");
    }

    private static void logForms() {
        promise = 11;
        SecretRows x = with("jK~!z");
        due("as it is", logOf(x, 0, "jK~!z,"), 6);
        dueTold("as it is", x, 0, "***,");
        due("from the end", logOf(x, 0, "z!~Kj,"), 6);
        dueTold("from the end", x, 0, "***,***,");
        due("by codes", logOf(x, 0, "6a4b7e217a,"), 11);
        dueTold("by codes", x, 0, "***,***,***,");
        due("digits are small ones", logOf(x, 0, "6A4B7E217A,"), 11);
        dueTold("digits are small ones", x, 0, "***,***,***,6A4B7E217A,");
        due("another case", logOf(x, 0, "Jk~!z,"), 6);
        dueTold("another case", x, 0, "***,***,***,6A4B7E217A,Jk~!z,");
        due("how many", x.about(0, 2), 3);
        SecretRows y = with("abcdefghijkl");
        due("by codes, the longest", logOf(y, 0, "6162636465666768696a6b6"), 23);
        due("held", y.about(0, 1), 23);
        due("the last digit", logOf(y, 0, "c"), 1);
        dueTold("covered", y, 0, "***");
    }

    private static void logOverlaps() {
        promise = 11;
        SecretRows x = with("abcd", "abcdefgh", "defgxy");
        due("the longest", logOf(x, 0, "abcdefgh"), 8);
        dueTold("the longest", x, 0, "***");
        due("a longer one may come", logOf(x, 0, "abcd"), 4);
        due("held", x.about(0, 1), 4);
        due("it doesn't", logOf(x, 0, "efgx"), 4);
        dueTold("the shorter one is taken, and it goes on behind it", x, 0, "******efgx");
        due("the left one first", logOf(x, 0, "abcdefgxy"), 9);
        dueTold("the left one first", x, 0, "******efgx***efgx");
        due("the last one begins another from its end", x.about(0, 1), 1);
        due("a start that fails within another", logOf(x, 0, "abcabcd."), 8);
        dueTold("a start that fails", x, 0, "******efgx***efgxyabc***.");
        due("taken at the end without a longer one", logOf(x, 0, "dcba"), 4);
        dueTold("taken at once", x, 0, "******efgx***efgxyabc***.***");
        SecretRows y = with("aaaa");
        due("a row of the same", logOf(y, 0, "aaaaaaaaa"), 9);
        dueTold("taken from the left on", y, 0, "******");
        due("one is held", y.about(0, 1), 1);
        due("two", y.about(0, 2), 2);
        SecretRows z = with("3333");
        due("eight may come", logOf(z, 0, "3333333"), 7);
        due("held", z.about(0, 1), 7);
        due("eight", logOf(z, 0, "33"), 2);
        dueTold("eight are one", z, 0, "***");
        due("one more is held", z.about(0, 1), 1);
    }

    private static void logFormsOfTheTime() {
        promise = 11;
        SecretRows x = with("abcd");
        due("before", logOf(x, 0, "wxyz abc"), 8);
        dueTold("before", x, 0, "wxyz ");
        due("rotated", setTo(x, 0, "wxyz", 2), 1);
        due("the old one counts", logOf(x, 0, "dwxyzabc"), 8);
        dueTold("what was told stays", x, 0, "wxyz ******");
        x.tick(2);
        due("held till a character comes", x.about(0, 1), 3);
        due("no character", x.log(0), 0);
        due("held till then", x.about(0, 1), 3);
        due("one comes", logOf(x, 0, "d"), 1);
        dueTold("it counts no longer", x, 0, "wxyz ******abcd");
        due("step", x.step(0, 0, 0, false), 1);
        due("a new form behind a held beginning", logOf(x, 1, "wxy"), 3);
        due("another secret", x.secret(0, 0, 0), 1);
        due("set", setTo(x, 1, "xyab", 0), 1);
        due("goes on", logOf(x, 1, "ab"), 2);
        dueTold("covered from within", x, 1, "w***");
        due("whole, but held", logOf(x, 1, "wxy"), 3);
        due("set", setTo(x, 1, "wxyq", 0), 1);
        due("set", setTo(x, 1, "wxyv", 5), 1);
        due("revoked", x.revoke(1), true);
        due("revoked ones count", logOf(x, 1, "qwxyv"), 5);
        dueTold("old and new", x, 1, "w*********");
        x.tick(5);
        due("again", logOf(x, 1, "wxyqwxyv"), 8);
        dueTold("the new one alone", x, 1, "w*********wxyq***");
    }

    private static void logRoom() {
        promise = 11;
        SecretRows x = with("abcd");
        due("300", logOf(x, 0, "abcd".repeat(75)), 300);
        due("told", x.about(0, 0), 225);
        due("no room, though less is told", logOf(x, 0, "x"), -1);
        due("nothing has room", x.log(0), 0);
        SecretRows y = new SecretRows();
        due("step", y.step(0, 0, 0, false), 0);
        due("298", logOf(y, 0, "z".repeat(298)), 298);
        due("three are too many, and none comes", logOf(y, 0, "abc"), -1);
        due("the tape is empty then", y.log(0), 0);
        due("none came", y.about(0, 0), 298);
        due("two fit", logOf(y, 0, "ab"), 2);
        due("all are told", y.about(0, 0), 300);
        due("the last", y.told(0, 299), 'b');
        due("one more", logOf(y, 0, "a"), -1);
    }

    private static void close() {
        promise = 12;
        SecretRows x = with("abcd", "abcdefgh");
        due("held", logOf(x, 0, "xabcdefgabc"), 11);
        dueTold("before", x, 0, "x***efg");
        due("close", x.close(0), 10);
        dueTold("a beginning is told", x, 0, "x***efgabc");
        due("again", x.close(0), -1);
        due("nothing is held", x.about(0, 1), 0);
        due("step", x.step(0, 0, 0, false), 1);
        due("whole, but a longer one may come", logOf(x, 1, "abcdef"), 6);
        due("held", x.about(1, 1), 6);
        due("close", x.close(1), 5);
        dueTold("as if nothing more could come", x, 1, "***ef");
        due("counted", x.about(1, 2), 1);
        for (int bad : new int[] {-1, 2, 12, Integer.MIN_VALUE, Integer.MAX_VALUE}) {
            due("no such step", x.close(bad), -1);
        }
        due("step", x.step(0, 0, 0, false), 2);
        due("an empty one", x.close(2), 0);
        due("step", x.step(0, 0, 0, false), 3);
        due("held", logOf(x, 3, "abcd"), 4);
        due("rotated", setTo(x, 0, "wxyz", 1), 1);
        x.tick(1);
        due("forms are those of when it is closed", x.close(3), 4);
        dueTold("so", x, 3, "abcd");
        due("step", x.step(0, 0, 0, false), 4);
        due("held", logOf(x, 4, "wabcdef"), 7);
        due("set", setTo(x, 0, "bcde", 1), 1);
        due("a new one within what is held", x.close(4), 6);
        dueTold("so", x, 4, "wa***f");
    }

    private static void told() {
        promise = 13;
        SecretRows x = with("abcd");
        due("none yet", x.told(0, 0), -1);
        due("log", logOf(x, 0, "x abcd~ab"), 9);
        String want = "x ***~";
        for (int i = 0; i < want.length(); i++) {
            due("told " + i, x.told(0, i), want.charAt(i));
        }
        due("what is held isn't told", x.told(0, 6), -1);
        for (int bad : WRONG) {
            due("no such i", x.told(0, bad), -1);
            due("no such step", x.told(bad, 0), -1);
        }
        due("300", x.told(0, 300), -1);
        due("step behind the last", x.told(1, 0), -1);
        due("close", x.close(0), 8);
        due("told when closed", x.told(0, 7), 'b');
        due("and no more", x.told(0, 8), -1);
    }

    private static void about() {
        promise = 14;
        SecretRows x = with("abcd");
        due("told", x.about(0, 0), 0);
        due("held", x.about(0, 1), 0);
        due("covered", x.about(0, 2), 0);
        due("log", logOf(x, 0, "abcd-dcba-abc"), 13);
        due("told", x.about(0, 0), 8);
        due("held", x.about(0, 1), 3);
        due("covered", x.about(0, 2), 2);
        for (int bad : WRONG) {
            due("no such what", x.about(0, bad), -1);
            due("no such step", x.about(bad, 0), -1);
        }
        due("what 3", x.about(0, 3), -1);
        due("step behind the last", x.about(1, 1), -1);
        due("close", x.close(0), 11);
        due("told", x.about(0, 0), 11);
        due("held", x.about(0, 1), 0);
        due("covered", x.about(0, 2), 2);
    }

    private static void token() {
        promise = 15;
        SecretRows x = with("abcd");
        due("no value", x.secret(255, 255, 255), 1);
        due("outside", x.step(0, 0, 0, true), 1);
        due("0 ticks", x.token(0, 0, 0), -1);
        due("100001 ticks", x.token(0, 0, 100001), -1);
        for (int bad : WRONG) {
            due("ticks", x.token(0, 0, bad), -1);
            due("step", x.token(bad, 0, 1), -1);
            due("secret", x.token(0, bad, 1), -1);
        }
        due("step behind the last", x.token(2, 0, 1), -1);
        due("not seen", x.token(0, 1, 1), -1);
        due("not seen from outside", x.token(1, 0, 1), -1);
        due("1 tick", x.token(0, 0, 1), 0);
        due("100000 ticks", x.token(0, 0, 100000), 1);
        due("revoke", x.revoke(0), true);
        for (int i = 2; i < 20; i++) {
            due("seen still", x.token(0, 0, 5), i);
        }
        due("the 21st", x.token(0, 0, 5), -1);
        due("isn't there", x.good(20), false);
    }

    private static void good() {
        promise = 16;
        SecretRows x = with("abcd", "efgh");
        x.tick(10);
        due("token", x.token(0, 0, 3), 0);
        due("token", x.token(0, 1, 100000), 1);
        due("good", x.good(0), true);
        x.tick(2);
        due("good still", x.good(0), true);
        x.tick(1);
        due("at its end", x.good(0), false);
        due("another's", x.good(1), true);
        for (int bad : WRONG) {
            due("no such token", x.good(bad), false);
        }
        due("behind the last", x.good(2), false);
        due("token", x.token(0, 0, 50), 2);
        due("rotated", setTo(x, 0, "ijkl", 50), 1);
        due("another value", x.good(2), false);
        due("token of a value that is old", x.token(0, 0, 50), 3);
        due("isn't good", x.good(3), false);
        due("rotated", setTo(x, 0, "mnop", 50), 1);
        due("the same text set anew", setTo(x, 0, "abcd", 50), 1);
        due("is another one", x.good(2), false);
        due("step", x.step(0, 0, 0, false), 1);
        due("token of the new one", x.token(1, 0, 50), 4);
        due("is good", x.good(4), true);
        due("a refused set", setTo(x, 0, "abcd", 50), -3);
        due("changes nothing", x.good(4), true);
        due("revoke", x.revoke(1), true);
        due("revoked", x.good(1), false);
        due("the other isn't", x.good(4), true);
    }

    private static void scan() {
        promise = 17;
        SecretRows x = with("abcd", "wxyz");
        due("empty", x.scan(), -1);
        due("at once", scanOf(x, "abcd"), 0);
        due("the tape is empty then", x.scan(), -1);
        due("behind", scanOf(x, "abc abcd abcd"), 4);
        due("the first of two", scanOf(x, "__zyxw abcd"), 2);
        due("by codes", scanOf(x, "7778797a"), 0);
        due("by codes, from the end isn't one", scanOf(x, "7a797877"), -1);
        due("not whole", scanOf(x, "abc wxy 6162636"), -1);
        due("at the end", scanOf(x, "-".repeat(296) + "dcba"), 296);
        due("nothing comes to a log", x.about(0, 0), 0);
        due("revoked", x.revoke(1), true);
        due("counts", scanOf(x, "-wxyz"), 1);
    }

    private static void scanForAllThatCanBe() {
        promise = 17;
        SecretRows x = new SecretRows();
        for (int i = 0; i < 10; i++) {
            due("secret", x.secret(255, 255, 255), i);
            due("the one that will be old", setTo(x, i, "old" + i, 0), 1);
            due("the other", setTo(x, i, "new" + i, 1), 1);
        }
        for (int i = 0; i < 10; i++) {
            due("old by codes", scanOf(x, "6f6c643" + i), 0);
            due("secret", x.leak(0), i);
            due("is old", x.leak(2), 1);
            due("new by codes", scanOf(x, "6e65773" + i), 0);
            due("secret", x.leak(0), i);
            due("isn't old", x.leak(2), 0);
        }
    }

    private static void leak() {
        promise = 18;
        SecretRows x = with("dcba", "abcd", "abcdef");
        due("the longest at that place", scanOf(x, "-abcdef"), 1);
        due("secret", x.leak(0), 2);
        due("form", x.leak(1), 0);
        due("old", x.leak(2), 0);
        due("the first place goes before the longest", scanOf(x, "abcdabcdef"), 0);
        due("the least secret", x.leak(0), 0);
        due("its form", x.leak(1), 1);
        due("by codes", scanOf(x, "616263646566"), 0);
        due("secret", x.leak(0), 2);
        due("form", x.leak(1), 2);
        due("none", scanOf(x, "none"), -1);
        due("the latest that found one", x.leak(0), 2);
        due("form", x.leak(1), 2);
        for (int bad : WRONG) {
            due("no such what", x.leak(bad), -1);
        }
        due("what 3", x.leak(3), -1);
        due("rotated", setTo(x, 1, "mnop", 9), 1);
        due("rotated", setTo(x, 1, "ponm", 9), 1);
        due("two values of one secret", scanOf(x, "ponm"), 0);
        due("secret", x.leak(0), 1);
        due("the one that was set first", x.leak(2), 1);
        due("from the end", x.leak(1), 1);
        x.tick(9);
        due("what was found stays", x.leak(2), 1);
        due("over", scanOf(x, "ponm"), 0);
        due("as it is", x.leak(1), 0);
        due("not old", x.leak(2), 0);
        SecretRows y = with("abba", "3333");
        due("the same both ways", scanOf(y, "abba"), 0);
        due("the first that fits", y.leak(1), 0);
        due("by codes is longer", scanOf(y, "33333333"), 0);
        due("secret", y.leak(0), 1);
        due("so it is that one", y.leak(1), 2);
        due("too short for codes", scanOf(y, "3333333"), 0);
        due("as it is", y.leak(1), 0);
    }
}
