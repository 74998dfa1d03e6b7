/**
 * For each sentence of the document that names a boundary case, a test of its own on a new object:
 * edge(..) begins one, and what fails is told with the sentence. A test may use 512 calls of its
 * object, as the document promises no more; the clock's limit alone can't be reached so soon.
 */
public final class EdgeTest {
    private static final int NONE = -1;
    private static final int MOST_CALLS = 512;
    private static final int PROMISES = 18;
    private static final int LEAST = Integer.MIN_VALUE;
    private static final int MOST = Integer.MAX_VALUE;

    private static final int[] edgesOf = new int[PROMISES + 1];
    private static int edges = 0;
    private static int brokenEdges = 0;
    private static boolean isBroken = false;
    private static int mostCalls = MOST_CALLS;
    private static String sentence = "";
    private static Rows x = new Rows();

    public static void main(String[] args) {
        newObject();
        secret();
        rules();
        type();
        setWhose();
        setTicks();
        setText();
        setHad();
        setTwentyFour();
        setOrder();
        setRefusedChangesNothing();
        setOld();
        revoke();
        tick();
        clockLimit();
        step();
        sees();
        seesAsItBegan();
        read();
        audit();
        logWhose();
        logRoom();
        logForms();
        logHeld();
        logFormsOfThen();
        close();
        told();
        about();
        token();
        good();
        scan();
        scanForms();
        leak();
        leakOfLikeOnes();
        conclude();
    }

    // ---- the harness

    private static void edge(int promise, String words) {
        endEdge();
        edges++;
        edgesOf[promise]++;
        sentence = "promise " + promise + ": " + words;
        mostCalls = MOST_CALLS;
        isBroken = false;
        x = new Rows();
    }

    private static void endEdge() {
        if (x.calls > mostCalls) {
            broken(x.calls + " calls are more than an object answers for");
        }
        if (isBroken) {
            brokenEdges++;
        }
    }

    private static void broken(String why) {
        isBroken = true;
        System.out.println(sentence + "\n    " + why);
    }

    private static void conclude() {
        endEdge();
        for (int promise = 1; promise <= PROMISES; promise++) {
            if (edgesOf[promise] == 0) {
                brokenEdges++;
                System.out.println("promise " + promise + " has no edge");
            }
        }
        System.out.println(edges + " edges, " + brokenEdges + " broken");
        if (brokenEdges != 0) {
            System.exit(1);
        }
    }

    private static void due(int want, int got) {
        if (got != want) {
            broken("call " + x.calls + ", " + x.latest + " answered " + got + ", due is " + want);
        }
    }

    private static void due(boolean want, boolean got) {
        due(want ? 1 : 0, got ? 1 : 0);
    }

    private static void dueLog(int step, String told, int held, int covered) {
        due(told.length(), x.about(step, 0));
        due(held, x.about(step, 1));
        due(covered, x.about(step, 2));
        for (int i = 0; i < told.length(); i++) {
            due(told.charAt(i), x.told(step, i));
        }
        due(NONE, x.told(step, told.length()));
    }

    private static void dueLeak(int secret, int form, int old) {
        due(secret, x.leak(0));
        due(form, x.leak(1));
        due(old, x.leak(2));
    }

    private static void typeAll(String text) {
        for (int i = 0; i < text.length(); i++) {
            due(true, x.type(text.charAt(i)));
        }
    }

    private static int set(int secret, String text, int ticks) {
        typeAll(text);
        return x.set(secret, ticks);
    }

    private static int log(int step, String text) {
        typeAll(text);
        return x.log(step);
    }

    private static int scan(String text) {
        typeAll(text);
        return x.scan();
    }

    /** SECRETS for all that have these VALUES, and a STEP 0 that SEES them. */
    private static void with(String... values) {
        secretsWith(values);
        due(0, x.step(0, 0, 0, false));
    }

    private static void secretsWith(String... values) {
        for (int i = 0; i < values.length; i++) {
            due(i, x.secret(255, 255, 255));
            due(1, set(i, values[i], 0));
        }
    }

    private static void dueTapeIsEmpty() {
        int step = x.step(0, 0, 0, true);
        due(0, x.log(step));
    }

    // ---- promises 1 to 3

    private static void newObject() {
        edge(1, "No SECRETS");
        due(false, x.revoke(0));
        due(-1, set(0, "abcd", 0));
        due(0, x.secret(0, 0, 0));
        edge(1, "no STEPS");
        due(NONE, x.sees(0, 0));
        due(NONE, x.read(0, 0, 0));
        due(NONE, x.log(0));
        due(NONE, x.close(0));
        due(NONE, x.told(0, 0));
        due(NONE, x.about(0, 0));
        due(NONE, x.token(0, 0, 1));
        due(0, x.step(0, 0, 0, false));
        edge(1, "CLOCK 0");
        due(0, x.tick(0));
        edge(1, "nothing else either: an empty TAPE, no AUDIT, no TOKENS, no scan that found one");
        dueTapeIsEmpty();
        due(NONE, x.audit(0, 0));
        due(false, x.good(0));
        dueLeak(NONE, NONE, NONE);
        edge(1, "a new object has nothing of another one's");
        with("abcd");
        due(0, scan("abcd"));
        x.tick(9);
        x = new Rows();
        due(0, x.tick(0));
        due(NONE, x.about(0, 0));
        due(NONE, x.leak(0));
        due(0, x.secret(255, 255, 255));
        due(1, set(0, "abcd", 0));
        edge(1, "an object is used for at most 512 calls: the 512th is answered as the first");
        with("abcd");
        for (int i = x.calls; i < 512; i++) {
            due('d', x.read(0, 0, 3));
        }
        due(512, x.calls);
        edge(1, "NONE = -1");
        due(-1, SecretRows.NONE);
    }

    private static void secret() {
        edge(2, "its number, from 0 on; at most 10");
        for (int i = 0; i < 10; i++) {
            due(i, x.secret(255, 255, 255));
        }
        due(1, set(9, "abcd", 0));
        edge(2, "NONE if there are 10");
        for (int i = 0; i < 10; i++) {
            due(i, x.secret(1, 1, 1));
        }
        due(1, set(0, "abcd", 0));
        due(NONE, x.secret(2, 2, 2));
        due(NONE, x.secret(2, 2, 2));
        due(-1, set(10, "efgh", 0));
        due(0, x.step(0, 0, 0, false));
        due(0, x.sees(0, 0));
        due(1, x.step(1, 1, 1, false));
        due(NONE, x.sees(1, 0));
        edge(2, "NONE if there are 10, REVOKED ones too");
        for (int i = 0; i < 10; i++) {
            due(i, x.secret(255, 255, 255));
            due(true, x.revoke(i));
        }
        due(NONE, x.secret(255, 255, 255));
        edge(2, "without a VALUE: no STEP SEES it, and it has no FORMS");
        due(0, x.secret(255, 255, 255));
        due(0, x.step(0, 0, 0, false));
        due(NONE, x.sees(0, 0));
        due(NONE, scan("a 0"));
        due(3, log(0, "a 0"));
        dueLog(0, "a 0", 0, 0);
    }

    private static void rules() {
        edge(2, "bits of ENVIRONMENTS, BRANCHES and JOBS, from bit 0 to bit 7");
        due(0, x.secret(1, 1, 1));
        due(1, x.secret(128, 128, 128));
        due(2, x.secret(128, 1, 16));
        due(1, set(0, "abcd", 0));
        due(1, set(1, "efgh", 0));
        due(1, set(2, "ijkl", 0));
        due(0, x.step(0, 0, 0, false));
        due(1, x.step(7, 7, 7, false));
        due(2, x.step(7, 0, 4, false));
        for (int i = 0; i < 3; i++) {
            due(i, x.sees(i, 0));
            due(NONE, x.sees(i, 1));
        }
        edge(2, "no bit in one of the three: no STEP SEES it");
        due(0, x.secret(0, 255, 255));
        due(1, x.secret(255, 0, 255));
        due(2, x.secret(255, 255, 0));
        due(1, set(0, "abcd", 0));
        due(1, set(1, "efgh", 0));
        due(1, set(2, "ijkl", 0));
        for (int i = 0; i < 8; i++) {
            due(i, x.step(i, i, i, false));
            due(NONE, x.sees(i, 0));
        }
        edge(2, "bits above 7 say nothing, and bits below 0 are all there");
        due(0, x.secret(256, 255, 255));
        due(1, x.secret(LEAST, -1, -1));
        due(2, x.secret(-1, -1, -1));
        due(3, x.secret(LEAST + 128, 128, -128));
        due(1, set(0, "abcd", 0));
        due(1, set(1, "efgh", 0));
        due(1, set(2, "ijkl", 0));
        due(1, set(3, "mnop", 0));
        due(0, x.step(0, 0, 0, false));
        due(2, x.sees(0, 0));
        due(NONE, x.sees(0, 1));
        due(1, x.step(7, 7, 7, false));
        due(2, x.sees(1, 0));
        due(3, x.sees(1, 1));
        due(NONE, x.sees(1, 2));
    }

    private static void type() {
        edge(3, "false if its code isn't 32 .. 126: too small");
        due(false, x.type((char) 31));
        due(false, x.type((char) 0));
        due(true, x.type((char) 32));
        edge(3, "false if its code isn't 32 .. 126: too large");
        due(false, x.type((char) 127));
        due(false, x.type((char) 128));
        due(false, x.type((char) 255));
        due(false, x.type((char) 65535));
        due(true, x.type((char) 126));
        edge(3, "false if its code isn't 32 .. 126: a wrap-around of one that is");
        due(false, x.type((char) (256 + 'a')));
        due(false, x.type((char) (65536 - 128 + 'a')));
        edge(3, "a refused character doesn't come onto the TAPE");
        due(false, x.type((char) 31));
        due(true, x.type('a'));
        due(false, x.type((char) 127));
        due(true, x.type('b'));
        due(0, x.step(0, 0, 0, false));
        due(2, x.log(0));
        dueLog(0, "ab", 0, 0);
        edge(3, "false if there are 300");
        typeAll("x".repeat(300));
        due(false, x.type('y'));
        due(false, x.type('y'));
        due(false, x.type((char) 31));
        due(0, x.step(0, 0, 0, false));
        due(300, x.log(0));
        due('x', x.told(0, 299));
        due(NONE, x.told(0, 300));
        edge(3, "a full TAPE that has become empty takes characters again");
        typeAll("x".repeat(300));
        due(false, x.type('y'));
        due(NONE, x.scan());
        due(true, x.type('y'));
        due(0, x.step(0, 0, 0, false));
        due(1, x.log(0));
        due('y', x.told(0, 0));
    }

    // ---- promise 4

    private static void setWhose() {
        for (int none : new int[] {-1, 1, 9, 10, LEAST, MOST}) {
            edge(4, "- 1 if there is no such SECRET: " + none);
            due(0, x.secret(255, 255, 255));
            due(-1, set(none, "abcd", 0));
            due(NONE, scan("abcd"));
        }
        edge(4, "- 1 if it is REVOKED");
        secretsWith("abcd");
        due(true, x.revoke(0));
        due(-1, set(0, "efgh", 0));
        due(NONE, scan("efgh"));
        edge(4, "- 1 if it is REVOKED, without a VALUE");
        due(0, x.secret(255, 255, 255));
        due(true, x.revoke(0));
        due(-1, set(0, "efgh", 0));
        edge(4, "another one's being REVOKED doesn't matter");
        secretsWith("abcd", "efgh");
        due(true, x.revoke(0));
        due(1, set(1, "ijkl", 0));
    }

    private static void setTicks() {
        for (int wrong : new int[] {-1, 100001, LEAST, MOST}) {
            edge(4, "- 1 if the time isn't so (0 .. 100000): " + wrong);
            secretsWith("abcd");
            due(-1, set(0, "efgh", wrong));
            due(NONE, scan("efgh"));
            edge(4, "- 1 if the time isn't so, though there is no VALUE before: " + wrong);
            due(0, x.secret(255, 255, 255));
            due(-1, set(0, "efgh", wrong));
            due(NONE, scan("efgh"));
        }
        for (int right : new int[] {0, 1, 99999, 100000}) {
            edge(4, "the time is 0 .. 100000: " + right);
            secretsWith("abcd");
            due(1, set(0, "efgh", right));
            due(0, scan("efgh"));
        }
    }

    private static void setText() {
        edge(4, "- 2 if it is too short: nothing");
        due(0, x.secret(255, 255, 255));
        due(-2, x.set(0, 0));
        edge(4, "- 2 if it is too short: three");
        due(0, x.secret(255, 255, 255));
        due(-2, set(0, "abc", 0));
        due(NONE, scan("abc"));
        edge(4, "four are enough");
        due(0, x.secret(255, 255, 255));
        due(1, set(0, "abcd", 0));
        edge(4, "twelve aren't too many");
        due(0, x.secret(255, 255, 255));
        due(1, set(0, "abcdefghijkl", 0));
        due(0, scan("abcdefghijkl"));
        edge(4, "- 2 if it is too long: thirteen");
        due(0, x.secret(255, 255, 255));
        due(-2, set(0, "abcdefghijklm", 0));
        due(NONE, scan("abcdefghijklm"));
        edge(4, "- 2 if it is too long: a full TAPE");
        due(0, x.secret(255, 255, 255));
        due(-2, set(0, "a".repeat(300), 0));
        for (String blank : new String[] {" abc", "ab c", "abc ", "    ", "abcdefghijk "}) {
            edge(4, "- 2 if it has a blank: '" + blank + "'");
            due(0, x.secret(255, 255, 255));
            due(-2, set(0, blank, 0));
            due(NONE, scan(blank));
        }
        edge(4, "characters 33 .. 126 are no blank");
        due(0, x.secret(255, 255, 255));
        due(1, set(0, "!~!!", 0));
        due(0, scan("!~!!"));
    }

    private static void setHad() {
        edge(4, "- 3 if another SECRET has it as VALUE");
        secretsWith("abcd", "efgh");
        due(-3, set(1, "abcd", 0));
        due(-3, set(0, "efgh", 0));
        edge(4, "- 3 if another SECRET has it as OLD one");
        secretsWith("abcd", "efgh");
        due(1, set(0, "ijkl", 5));
        due(-3, set(1, "abcd", 0));
        edge(4, "- 3 if another SECRET has it as OLD one, though its time is over");
        secretsWith("abcd", "efgh");
        due(1, set(0, "ijkl", 5));
        due(5, x.tick(5));
        due(-3, set(1, "abcd", 0));
        edge(4, "- 3 if another SECRET has it, though that is REVOKED");
        secretsWith("abcd", "efgh");
        due(1, set(0, "ijkl", 5));
        due(true, x.revoke(0));
        due(-3, set(1, "ijkl", 0));
        due(-3, set(1, "abcd", 0));
        edge(4, "- 3 if it has itself: as VALUE");
        secretsWith("abcd");
        due(-3, set(0, "abcd", 0));
        edge(4, "- 3 if it has itself: as OLD one");
        secretsWith("abcd");
        due(1, set(0, "efgh", 5));
        due(-3, set(0, "abcd", 0));
        due(5, x.tick(5));
        due(-3, set(0, "abcd", 0));
        edge(4, "an OLD one in whose place another came is had no more");
        secretsWith("abcd", "efgh");
        due(1, set(0, "ijkl", 5));
        due(1, set(0, "mnop", 5));
        due(1, set(1, "abcd", 0));
        edge(4, "not - 3 for another FORM, a beginning or a longer one of a VALUE");
        secretsWith("abcde", "zzzz");
        due(1, set(1, "edcba", 0));
        due(1, set(1, "abcd", 0));
        due(1, set(1, "abcdef", 0));
        due(1, set(1, "bcde", 0));
        due(1, set(1, "6162636465", 0));
        edge(4, "the first and the last of 10 SECRETS have theirs too");
        secretsWith("val0", "val1", "val2", "val3", "val4", "val5", "val6", "val7", "val8", "val9");
        due(-3, set(9, "val0", 0));
        due(-3, set(0, "val9", 0));
        edge(4, "what was refused is had by none");
        secretsWith("abcd", "efgh");
        due(-1, set(0, "ijkl", -1));
        due(1, set(1, "ijkl", 0));
    }

    private static void setValues(int count) {
        for (int i = 0; i < count; i++) {
            due(1, set(i % 2, "val" + (char) ('a' + i), 0));
        }
    }

    private static void setTwentyFour() {
        edge(4, "24 VALUES can be set");
        x.secret(255, 255, 255);
        x.secret(255, 255, 255);
        setValues(24);
        due(0, scan("valx"));
        edge(4, "- 4 if 24 VALUES have been set already");
        x.secret(255, 255, 255);
        x.secret(255, 255, 255);
        setValues(24);
        due(-4, set(0, "valy", 0));
        due(-4, set(1, "valy", 0));
        due(NONE, scan("valy"));
        edge(4, "- 4, of all SECRETS: for one without a VALUE too");
        x.secret(255, 255, 255);
        x.secret(255, 255, 255);
        setValues(24);
        due(2, x.secret(255, 255, 255));
        due(-4, set(2, "valy", 0));
        edge(4, "refused ones aren't among the 24");
        x.secret(255, 255, 255);
        x.secret(255, 255, 255);
        setValues(23);
        due(-1, set(2, "valx", 0));
        due(-2, set(0, "x", 0));
        due(-3, set(0, "valw", 0));
        due(1, set(1, "valx", 0));
        due(-4, set(0, "valy", 0));
    }

    private static void setOrder() {
        edge(4, "the first of these that holds: - 1 before - 2");
        due(0, x.secret(255, 255, 255));
        due(-1, set(1, "abc", 0));
        due(-1, set(0, "abc", -1));
        due(true, x.revoke(0));
        due(-1, x.set(0, 0));
        edge(4, "the first of these that holds: - 1 before - 3");
        secretsWith("abcd", "efgh");
        due(-1, set(2, "abcd", 0));
        due(-1, set(0, "abcd", 100001));
        due(true, x.revoke(0));
        due(-1, set(0, "abcd", 0));
        edge(4, "the first of these that holds: - 1, - 2, - 3 before - 4");
        x.secret(255, 255, 255);
        x.secret(255, 255, 255);
        setValues(24);
        due(-1, set(2, "valy", 0));
        due(-2, set(0, "val", 0));
        due(-3, set(0, "valx", 0));
        due(-3, set(0, "valv", 0));
        due(-4, set(0, "valy", 0));
        edge(4, "the TAPE is empty then: 1");
        due(0, x.secret(255, 255, 255));
        due(1, set(0, "abcd", 0));
        dueTapeIsEmpty();
        edge(4, "the TAPE is empty then: - 1");
        due(-1, set(0, "abcd", 0));
        dueTapeIsEmpty();
        edge(4, "the TAPE is empty then: - 2");
        due(0, x.secret(255, 255, 255));
        due(-2, set(0, "abc", 0));
        dueTapeIsEmpty();
        edge(4, "the TAPE is empty then: - 3");
        secretsWith("abcd");
        due(-3, set(0, "abcd", 0));
        dueTapeIsEmpty();
        edge(4, "the TAPE is empty then: - 4");
        x.secret(255, 255, 255);
        x.secret(255, 255, 255);
        setValues(24);
        due(-4, set(0, "valy", 0));
        dueTapeIsEmpty();
    }

    /** A SECRET with VALUE efgh and OLD one abcd till 5 has them after a refused call as well. */
    private static void dueUnchanged() {
        due(0, scan("efgh"));
        dueLeak(0, 0, 0);
        due(4, x.tick(4));
        due(0, scan("abcd"));
        dueLeak(0, 0, 1);
        due(5, x.tick(1));
        due(NONE, scan("abcd"));
        due(true, x.good(0));
    }

    private static void withOldAndToken() {
        secretsWith("abcd");
        due(1, set(0, "efgh", 5));
        due(0, x.step(0, 0, 0, false));
        due(0, x.token(0, 0, 100000));
    }

    private static void setRefusedChangesNothing() {
        edge(4, "a refused call changes no VALUE, OLD one or time: - 1");
        withOldAndToken();
        due(-1, set(0, "ijkl", 100001));
        due(-1, set(1, "ijkl", 9));
        dueUnchanged();
        edge(4, "a refused call changes no VALUE, OLD one or time: - 2");
        withOldAndToken();
        due(-2, set(0, "ijk", 9));
        dueUnchanged();
        edge(4, "a refused call changes no VALUE, OLD one or time: - 3");
        withOldAndToken();
        due(-3, set(0, "efgh", 9));
        due(-3, set(0, "abcd", 9));
        dueUnchanged();
        edge(4, "a refused call changes no VALUE, OLD one or time: - 4");
        due(0, x.secret(255, 255, 255));
        due(1, x.secret(255, 255, 255));
        for (int i = 0; i < 22; i++) {
            due(1, set(1, "val" + (char) ('a' + i), 0));
        }
        due(1, set(0, "abcd", 0));
        due(1, set(0, "efgh", 5));
        due(0, x.step(0, 0, 0, false));
        due(0, x.token(0, 0, 100000));
        due(-4, set(0, "ijkl", 9));
        dueUnchanged();
    }

    private static void setOld() {
        edge(4, "the first VALUE has none before it that would become OLD");
        due(0, x.secret(255, 255, 255));
        due(1, set(0, "abcd", 9));
        due(0, scan("abcd"));
        dueLeak(0, 0, 0);
        edge(4, "the one before becomes its OLD one till so many ticks from now");
        secretsWith("abcd");
        due(7, x.tick(7));
        due(1, set(0, "efgh", 3));
        due(0, scan("abcd"));
        dueLeak(0, 0, 1);
        due(9, x.tick(2));
        due(0, scan("abcd"));
        due(10, x.tick(1));
        due(NONE, scan("abcd"));
        edge(4, "till 0 ticks from now: it doesn't count at all");
        secretsWith("abcd");
        due(1, set(0, "efgh", 0));
        due(NONE, scan("abcd"));
        edge(4, "till 1 tick from now");
        secretsWith("abcd");
        due(1, set(0, "efgh", 1));
        due(0, scan("abcd"));
        due(1, x.tick(1));
        due(NONE, scan("abcd"));
        edge(4, "till 100000 ticks from now");
        secretsWith("abcd");
        due(1, set(0, "efgh", 100000));
        due(99999, x.tick(99999));
        due(0, scan("abcd"));
        due(100000, x.tick(1));
        due(NONE, scan("abcd"));
        edge(4, "in place of another, though that one's time isn't over");
        secretsWith("abcd");
        due(1, set(0, "efgh", 100000));
        due(1, set(0, "ijkl", 2));
        due(NONE, scan("abcd"));
        due(0, scan("efgh"));
        due(2, x.tick(2));
        due(NONE, scan("efgh"));
        edge(4, "a STEP keeps its VALUE through it, and the one begun since has the new one");
        with("abcd");
        due(1, set(0, "efghi", 0));
        due('a', x.read(0, 0, 0));
        due(NONE, x.read(0, 0, 4));
        due(1, x.step(0, 0, 0, false));
        due('e', x.read(1, 0, 0));
        due('i', x.read(1, 0, 4));
    }

    // ---- promises 5 to 7

    private static void revoke() {
        for (int none : new int[] {-1, 1, 10, LEAST, MOST}) {
            edge(5, "false if there is none such: " + none);
            due(0, x.secret(255, 255, 255));
            due(false, x.revoke(none));
            due(1, set(0, "abcd", 0));
        }
        edge(5, "false if it is REVOKED");
        secretsWith("abcd");
        due(true, x.revoke(0));
        due(false, x.revoke(0));
        due(false, x.revoke(0));
        edge(5, "a SECRET without a VALUE can be REVOKED");
        due(0, x.secret(255, 255, 255));
        due(true, x.revoke(0));
        due(false, x.revoke(0));
        edge(5, "the first and the last of 10");
        for (int i = 0; i < 10; i++) {
            due(i, x.secret(255, 255, 255));
        }
        due(true, x.revoke(0));
        due(true, x.revoke(9));
        due(1, set(1, "abcd", 0));
        due(1, set(8, "efgh", 0));
        edge(5, "for good: neither time nor a refused set ends it");
        secretsWith("abcd");
        due(true, x.revoke(0));
        due(-1, set(0, "efgh", 0));
        due(100000, x.tick(100000));
        due(0, x.step(0, 0, 0, false));
        due(NONE, x.sees(0, 0));
        due(false, x.revoke(0));
        edge(5, "a STEP that SAW it before SEES it still");
        with("abcd");
        due(true, x.revoke(0));
        due(0, x.sees(0, 0));
        due('a', x.read(0, 0, 0));
    }

    private static void tick() {
        for (int wrong : new int[] {-1, 100001, LEAST, MOST}) {
            edge(6, "NONE if it isn't so (0 .. 100000): " + wrong);
            due(5, x.tick(5));
            due(NONE, x.tick(wrong));
            due(5, x.tick(0));
        }
        edge(6, "by 0: the CLOCK stays");
        due(0, x.tick(0));
        due(3, x.tick(3));
        due(3, x.tick(0));
        edge(6, "by 1");
        due(1, x.tick(1));
        due(2, x.tick(1));
        edge(6, "by 100000");
        due(100000, x.tick(100000));
        due(200000, x.tick(100000));
        edge(6, "as far as 512 calls go");
        for (int i = 1; i <= 512; i++) {
            due(i * 100000, x.tick(100000));
        }
    }

    /** Some 10000 calls are needed for it: more than the document answers for, but it tells the limit. */
    private static void clockAt(int time) {
        mostCalls = MOST;
        for (int i = 1; i <= time / 100000; i++) {
            due(i * 100000, x.tick(100000));
        }
        if (time % 100000 != 0) {
            due(time, x.tick(time % 100000));
        }
    }

    private static void clockLimit() {
        edge(6, "1000000000 itself isn't above 1000000000");
        clockAt(999999999);
        due(1000000000, x.tick(1));
        due(1000000000, x.tick(0));
        edge(6, "NONE if it would be above 1000000000: by 1");
        clockAt(1000000000);
        due(NONE, x.tick(1));
        due(NONE, x.tick(100000));
        due(1000000000, x.tick(0));
        edge(6, "NONE if it would be above 1000000000: by more, and less is fine");
        clockAt(999950000);
        due(NONE, x.tick(50001));
        due(NONE, x.tick(100000));
        due(NONE, x.tick(MOST));
        due(1000000000, x.tick(50000));
        edge(6, "times behind 1000000000 are fine for OLD ones and TOKENS");
        clockAt(1000000000);
        with("abcd");
        due(1, set(0, "efgh", 100000));
        due(0, scan("abcd"));
        due(1, x.step(0, 0, 0, false));
        due(0, x.token(1, 0, 100000));
        due(true, x.good(0));
    }

    private static void step() {
        for (int wrong : new int[] {-1, 8, 31, 32, LEAST, MOST}) {
            edge(7, "NONE if the ENVIRONMENT isn't 0 .. 7: " + wrong);
            due(NONE, x.step(wrong, 0, 0, false));
            due(NONE, x.about(0, 0));
            due(0, x.step(7, 7, 7, false));
            edge(7, "NONE if the BRANCH isn't 0 .. 7: " + wrong);
            due(NONE, x.step(0, wrong, 0, false));
            due(NONE, x.about(0, 0));
            due(0, x.step(7, 7, 7, false));
            edge(7, "NONE if the JOB isn't 0 .. 7: " + wrong);
            due(NONE, x.step(0, 0, wrong, true));
            due(NONE, x.about(0, 0));
            due(0, x.step(7, 7, 7, false));
        }
        edge(7, "0 .. 7 are all fine, for each of the three");
        for (int i = 0; i < 8; i++) {
            due(i, x.step(i, 7 - i, (i + 4) % 8, i % 2 == 0));
        }
        edge(7, "its number, from 0 on; at most 12, those from OUTSIDE too");
        for (int i = 0; i < 12; i++) {
            due(i, x.step(0, 0, 0, i % 3 == 0));
        }
        due(0, x.about(11, 0));
        edge(7, "NONE if there are 12");
        for (int i = 0; i < 12; i++) {
            due(i, x.step(0, 0, 0, false));
        }
        due(NONE, x.step(0, 0, 0, false));
        due(NONE, x.step(0, 0, 0, true));
        due(NONE, x.step(8, 0, 0, false));
        due(NONE, x.about(12, 0));
        edge(7, "NONE if there are 12, CLOSED ones too");
        for (int i = 0; i < 12; i++) {
            due(i, x.step(0, 0, 0, false));
            due(0, x.close(i));
        }
        due(NONE, x.step(0, 0, 0, false));
    }

    // ---- promises 8 to 10

    private static void sees() {
        for (int none : new int[] {-1, 1, 12, LEAST, MOST}) {
            edge(8, "NONE if there is no such STEP: " + none);
            with("abcd");
            due(NONE, x.sees(none, 0));
        }
        for (int none : new int[] {-1, 2, 9, 10, LEAST, MOST}) {
            edge(8, "NONE if there is no i-th SECRET: " + none);
            with("abcd", "efgh");
            due(NONE, x.sees(0, none));
        }
        edge(8, "none at all");
        due(0, x.step(0, 0, 0, false));
        due(NONE, x.sees(0, 0));
        edge(8, "all 10");
        with("val0", "val1", "val2", "val3", "val4", "val5", "val6", "val7", "val8", "val9");
        for (int i = 0; i < 10; i++) {
            due(i, x.sees(0, i));
        }
        due(NONE, x.sees(0, 10));
        edge(8, "by numbers, not by when they were set, those between left out");
        for (int i = 0; i < 10; i++) {
            due(i, x.secret(255, 255, i % 3 == 0 ? 255 : 0));
        }
        for (int i = 9; i >= 0; i--) {
            due(1, set(i, "val" + i, 0));
        }
        due(0, x.step(0, 0, 0, false));
        for (int i = 0; i < 4; i++) {
            due(3 * i, x.sees(0, i));
        }
        due(NONE, x.sees(0, 4));
        edge(8, "the last STEP of 12");
        secretsWith("abcd");
        for (int i = 0; i < 12; i++) {
            due(i, x.step(0, 0, 0, false));
        }
        due(0, x.sees(11, 0));
    }

    private static void seesAsItBegan() {
        edge(8, "not from OUTSIDE");
        secretsWith("abcd");
        due(0, x.step(0, 0, 0, true));
        due(NONE, x.sees(0, 0));
        edge(8, "all three bits: each of them may be missing");
        due(0, x.secret(2, 4, 8));
        due(1, set(0, "abcd", 0));
        int[][] places = {{1, 2, 3}, {2, 2, 3}, {1, 3, 3}, {1, 2, 2}, {0, 2, 3}, {1, 1, 3}, {1, 2, 4}, {3, 1, 2}};
        for (int i = 0; i < places.length; i++) {
            due(i, x.step(places[i][0], places[i][1], places[i][2], false));
            due(i == 0 ? 0 : NONE, x.sees(i, 0));
        }
        edge(8, "the SECRET has a VALUE when the STEP begins");
        due(0, x.secret(255, 255, 255));
        due(0, x.step(0, 0, 0, false));
        due(1, set(0, "abcd", 0));
        due(NONE, x.sees(0, 0));
        due(1, x.step(0, 0, 0, false));
        due(0, x.sees(1, 0));
        edge(8, "the SECRET isn't REVOKED when the STEP begins");
        secretsWith("abcd", "efgh");
        due(0, x.step(0, 0, 0, false));
        due(true, x.revoke(0));
        due(1, x.step(0, 0, 0, false));
        due(0, x.sees(0, 0));
        due(1, x.sees(0, 1));
        due(1, x.sees(1, 0));
        due(NONE, x.sees(1, 1));
        edge(8, "a SECRET made later isn't SEEN");
        due(0, x.step(0, 0, 0, false));
        secretsWith("abcd");
        due(NONE, x.sees(0, 0));
        edge(8, "a CLOSED STEP SEES what it saw");
        with("abcd");
        due(0, x.close(0));
        due(0, x.sees(0, 0));
    }

    private static void read() {
        for (int none : new int[] {-1, 4, 12, LEAST, MOST}) {
            edge(9, "NONE if there is no such character, and told in the AUDIT whatever i is: " + none);
            with("abcd");
            due(NONE, x.read(0, 0, none));
            due(0, x.audit(0, 0));
            due(NONE, x.audit(1, 0));
        }
        for (int none : new int[] {-1, 1, 12, LEAST, MOST}) {
            edge(9, "NONE, and not told, if there is no such STEP: " + none);
            with("abcd");
            due(NONE, x.read(none, 0, 0));
            due(NONE, x.audit(0, 0));
        }
        for (int none : new int[] {-1, 1, 9, 10, LEAST, MOST}) {
            edge(9, "NONE, and not told, if there is no such SECRET: " + none);
            with("abcd");
            due(NONE, x.read(0, none, 0));
            due(NONE, x.audit(0, 0));
        }
        edge(9, "NONE, and not told, if it doesn't SEE it: OUTSIDE, RULES, no VALUE, REVOKED");
        secretsWith("abcd", "efgh");
        due(2, x.secret(254, 255, 255));
        due(1, set(2, "ijkl", 0));
        due(3, x.secret(255, 255, 255));
        due(true, x.revoke(1));
        due(0, x.step(0, 0, 0, true));
        due(1, x.step(0, 0, 0, false));
        due(NONE, x.read(0, 0, 0));
        due(NONE, x.read(1, 1, 0));
        due(NONE, x.read(1, 2, 0));
        due(NONE, x.read(1, 3, 0));
        due(NONE, x.audit(0, 0));
        edge(9, "the first and the last of 4 characters, codes 33 and 126");
        with("!bc~");
        due(33, x.read(0, 0, 0));
        due(126, x.read(0, 0, 3));
        edge(9, "the last of 12 characters, and none behind it");
        with("abcdefghijkl");
        due('l', x.read(0, 0, 11));
        due(NONE, x.read(0, 0, 12));
        edge(9, "as it keeps it: a longer one set since isn't read");
        with("abcd");
        due(1, set(0, "efghijkl", 0));
        due(true, x.revoke(0));
        due('d', x.read(0, 0, 3));
        due(NONE, x.read(0, 0, 4));
        edge(9, "a CLOSED STEP reads");
        with("abcd");
        due(0, x.close(0));
        due('b', x.read(0, 0, 1));
        due(0, x.audit(0, 1));
    }

    private static void audit() {
        edge(10, "NONE if there is none such: no row yet");
        with("abcd");
        due(NONE, x.audit(0, 0));
        due(NONE, x.audit(0, 1));
        due(NONE, x.audit(0, 2));
        for (int none : new int[] {-1, 1, 199, 200, LEAST, MOST, 1431655766, -1431655765}) {
            edge(10, "NONE if there is none such, a wrap-around among them: " + none);
            with("abcd");
            due('a', x.read(0, 0, 0));
            due(NONE, x.audit(none, 0));
            due(NONE, x.audit(none, 1));
            due(NONE, x.audit(none, 2));
        }
        for (int other : new int[] {-1, 3, LEAST, MOST}) {
            edge(10, "NONE for another what: " + other);
            with("abcd");
            due('a', x.read(0, 0, 0));
            due('a', x.read(0, 0, 0));
            due(NONE, x.audit(0, other));
            due(NONE, x.audit(1, other));
        }
        edge(10, "0 the STEP, 1 the SECRET, 2 the CLOCK as it was then");
        secretsWith("abcd", "efgh", "ijkl");
        due(0, x.step(0, 0, 0, false));
        due(1, x.step(0, 0, 0, false));
        due(77, x.tick(77));
        due('k', x.read(1, 2, 2));
        due(78, x.tick(1));
        due(1, x.audit(0, 0));
        due(2, x.audit(0, 1));
        due(77, x.audit(0, 2));
        edge(10, "200 rows are kept");
        with("abcd", "efgh");
        for (int i = 0; i < 199; i++) {
            due('a', x.read(0, 0, 0));
        }
        due(5, x.tick(5));
        due('e', x.read(0, 1, 0));
        due(0, x.audit(199, 0));
        due(1, x.audit(199, 1));
        due(5, x.audit(199, 2));
        edge(10, "at most 200 rows, others are lost, though reading answers");
        with("abcd", "efgh");
        for (int i = 0; i < 200; i++) {
            due('a', x.read(0, 0, 0));
        }
        due(5, x.tick(5));
        due('e', x.read(0, 1, 0));
        due('f', x.read(0, 1, 1));
        due(NONE, x.audit(200, 0));
        due(NONE, x.audit(201, 1));
        due(0, x.audit(0, 1));
        due(0, x.audit(199, 1));
        due(0, x.audit(199, 2));
    }

    // ---- promises 11 to 14

    private static void logWhose() {
        for (int none : new int[] {-1, 1, 12, LEAST, MOST}) {
            edge(11, "NONE, and none comes, if there is no such STEP: " + none);
            due(0, x.step(0, 0, 0, false));
            due(NONE, log(none, "abc"));
            dueLog(0, "", 0, 0);
            dueTapeIsEmpty();
        }
        edge(11, "NONE, and none comes, if it is CLOSED");
        due(0, x.step(0, 0, 0, false));
        due(2, log(0, "ab"));
        due(2, x.close(0));
        due(NONE, log(0, "c"));
        due(NONE, x.log(0));
        dueLog(0, "ab", 0, 0);
        dueTapeIsEmpty();
        edge(11, "an empty TAPE: none comes, and that is 0");
        due(0, x.step(0, 0, 0, false));
        due(0, x.log(0));
        dueLog(0, "", 0, 0);
        edge(11, "the TAPE is empty then");
        due(0, x.step(0, 0, 0, false));
        due(1, log(0, "a"));
        due(0, x.log(0));
        dueLog(0, "a", 0, 0);
        edge(11, "each STEP has a LOG of its own, and CLOSING one leaves the others open");
        due(0, x.step(0, 0, 0, false));
        due(1, x.step(0, 0, 0, true));
        due(1, log(0, "a"));
        due(1, x.close(0));
        due(2, log(1, "bc"));
        dueLog(0, "a", 0, 0);
        dueLog(1, "bc", 0, 0);
        edge(11, "characters 32 and 126 are told as they are");
        due(0, x.step(0, 0, 0, false));
        due(2, log(0, " ~"));
        dueLog(0, " ~", 0, 0);
    }

    private static void logRoom() {
        edge(11, "at most 300 characters: all at once");
        due(0, x.step(0, 0, 0, false));
        due(300, log(0, "z".repeat(299) + "y"));
        due(300, x.about(0, 0));
        due('y', x.told(0, 299));
        edge(11, "NONE, and none comes, if there is no room: 300 are there");
        due(0, x.step(0, 0, 0, false));
        due(300, log(0, "z".repeat(300)));
        due(NONE, log(0, "y"));
        due(300, x.about(0, 0));
        due('z', x.told(0, 299));
        dueTapeIsEmpty();
        edge(11, "NONE, and none comes, if there is no room for all of them");
        due(0, x.step(0, 0, 0, false));
        due(298, log(0, "z".repeat(298)));
        due(NONE, log(0, "abc"));
        due(298, x.about(0, 0));
        due(0, x.about(0, 1));
        due(2, log(0, "ab"));
        due('b', x.told(0, 299));
        edge(11, "a full LOG has room for nothing, and that is 0");
        due(0, x.step(0, 0, 0, false));
        due(300, log(0, "z".repeat(300)));
        due(0, x.log(0));
        edge(11, "its text has at most 300 characters, though fewer are told of it");
        with("abcd");
        due(300, log(0, "abcd".repeat(75)));
        due(225, x.about(0, 0));
        due(75, x.about(0, 2));
        due('*', x.told(0, 224));
        due(NONE, x.told(0, 225));
        due(NONE, log(0, "x"));
        edge(11, "what is HELD takes room too");
        with("abcd");
        due(300, log(0, "z".repeat(297) + "abc"));
        due(297, x.about(0, 0));
        due(3, x.about(0, 1));
        due(NONE, log(0, "d"));
        due(300, x.close(0));
        edge(11, "a full LOG of one STEP leaves the others their room");
        due(0, x.step(0, 0, 0, false));
        due(1, x.step(0, 0, 0, false));
        due(300, log(0, "z".repeat(300)));
        due(1, log(1, "a"));
    }

    private static void logForms() {
        edge(11, "its characters, of 4 and of 12");
        with("abcd", "mnopqrstuvwx");
        due(20, log(0, "-abcd-mnopqrstuvwx--"));
        dueLog(0, "-***-***--", 0, 2);
        edge(11, "the same from the last one to the first, of 4 and of 12");
        with("abcd", "mnopqrstuvwx");
        due(20, log(0, "-dcba-xwvutsrqponm--"));
        dueLog(0, "-***-***--", 0, 2);
        edge(11, "two digits for each character, codes 33 and 126, 8 and 24 of them");
        with("!~JO", "mnopqrstuvwx");
        due(36, log(0, "-217e4a4f-6d6e6f707172737475767778--"));
        dueLog(0, "-***-***--", 0, 2);
        edge(11, "digits are 0 .. 9, a .. f: capital ones are none");
        with("!~JO");
        due(10, log(0, "-217E4A4F-"));
        dueLog(0, "-217E4A4F-", 0, 0);
        edge(11, "by codes from the last one to the first is no FORM");
        with("abcd", "wxyz");
        due(10, log(0, "-64636261-"));
        dueLog(0, "-64636261-", 0, 0);
        edge(11, "not whole: no *** for one that lacks a character");
        with("abcd");
        due(17, log(0, "-abc-bcd-616263-x"));
        dueLog(0, "-abc-bcd-616263-x", 0, 0);
        edge(11, "the longest that is there");
        with("abcd", "abcdef", "abcdefgh");
        due(8, log(0, "-abcdef-"));
        dueLog(0, "-***-", 0, 1);
        edge(11, "from the left on, and it goes on behind it");
        with("abcd", "cdef");
        due(7, log(0, "abcdef-"));
        dueLog(0, "***ef-", 0, 1);
        edge(11, "FORMS side by side become *** each");
        with("abcd");
        due(12, log(0, "abcdabcddcba"));
        dueLog(0, "*********", 0, 3);
        edge(11, "a FORM at the very end of what came, if no longer one may come");
        with("abcd");
        due(5, log(0, "-abcd"));
        dueLog(0, "-***", 0, 1);
        edge(11, "a LOG from OUTSIDE is COVERED too");
        secretsWith("abcd");
        due(0, x.step(0, 0, 0, true));
        due(4, log(0, "abcd"));
        dueLog(0, "***", 0, 1);
        edge(11, "*** that was told begins no FORM");
        with("abcd", "***z");
        due(5, log(0, "abcdz"));
        dueLog(0, "***", 1, 1);
        due(1, log(0, "-"));
        dueLog(0, "***z-", 0, 1);
    }

    private static void logHeld() {
        edge(11, "HELD: a beginning of one character");
        with("abcd");
        due(2, log(0, "-a"));
        dueLog(0, "-", 1, 0);
        edge(11, "HELD: all but the last character of the longest FORM");
        with("mnopqrstuvwx");
        due(23, log(0, "6d6e6f70717273747576777"));
        dueLog(0, "", 23, 0);
        due(1, log(0, "8"));
        dueLog(0, "***", 0, 1);
        edge(11, "each character in a piece of its own");
        with("abcd");
        String text = "xabcd";
        for (int i = 0; i < text.length(); i++) {
            due(1, log(0, text.substring(i, i + 1)));
        }
        dueLog(0, "x***", 0, 1);
        edge(11, "HELD: whole, but a longer one may come still, and it comes");
        with("abcd", "abcdef");
        due(4, log(0, "abcd"));
        dueLog(0, "", 4, 0);
        due(1, log(0, "e"));
        dueLog(0, "", 5, 0);
        due(1, log(0, "f"));
        dueLog(0, "***", 0, 1);
        edge(11, "HELD: whole, but a longer one may come still, and it doesn't");
        with("abcd", "abcdef");
        due(5, log(0, "abcde"));
        dueLog(0, "", 5, 0);
        due(1, log(0, "-"));
        dueLog(0, "***e-", 0, 1);
        edge(11, "HELD from where the beginning is, behind what can't become one");
        with("aabaac");
        due(5, log(0, "aabaa"));
        dueLog(0, "", 5, 0);
        due(1, log(0, "b"));
        dueLog(0, "aab", 3, 0);
        due(3, log(0, "aac"));
        dueLog(0, "aab***", 0, 1);
        edge(11, "what is behind a taken one may be HELD at once");
        with("abcd");
        due(7, log(0, "abcdabc"));
        dueLog(0, "***", 3, 1);
        edge(11, "the same character over and over");
        with("aaaa");
        due(11, log(0, "aaaaaaaaaaa"));
        dueLog(0, "******", 3, 2);
        edge(11, "whole at the end, while its own FORM by codes is longer");
        with("3333");
        due(7, log(0, "3333333"));
        dueLog(0, "", 7, 0);
        due(1, log(0, "3"));
        dueLog(0, "***", 0, 1);
        edge(11, "nothing is HELD if there are no FORMS");
        due(0, x.secret(255, 255, 255));
        due(0, x.step(0, 0, 0, false));
        due(3, log(0, "abc"));
        dueLog(0, "abc", 0, 0);
    }

    private static void logFormsOfThen() {
        edge(11, "an OLD one counts while the CLOCK is below its time");
        with("abcd");
        due(1, set(0, "wxyz", 5));
        due(4, x.tick(4));
        due(4, log(0, "abcd"));
        dueLog(0, "***", 0, 1);
        edge(11, "an OLD one doesn't count when the CLOCK is at its time");
        with("abcd");
        due(1, set(0, "wxyz", 5));
        due(5, x.tick(5));
        due(4, log(0, "abcd"));
        dueLog(0, "abcd", 0, 0);
        edge(11, "what was told stays, though it would be COVERED now");
        with("abcd");
        due(5, log(0, "wxyz-"));
        due(1, set(0, "wxyz", 0));
        due(4, log(0, "wxyz"));
        dueLog(0, "wxyz-***", 0, 1);
        edge(11, "what was COVERED stays, though it wouldn't be now");
        with("abcd");
        due(4, log(0, "abcd"));
        due(1, set(0, "wxyz", 0));
        due(4, log(0, "abcd"));
        dueLog(0, "***abcd", 0, 1);
        edge(11, "what is HELD goes by the FORMS of when the next character comes");
        with("abcd");
        due(3, log(0, "abc"));
        due(1, set(0, "wxyz", 0));
        dueLog(0, "", 3, 0);
        due(0, x.log(0));
        dueLog(0, "", 3, 0);
        due(1, log(0, "d"));
        dueLog(0, "abcd", 0, 0);
        edge(11, "what is HELD may become a FORM that was set since");
        with("abcd");
        due(3, log(0, "abc"));
        due(1, x.secret(0, 0, 0));
        due(1, set(1, "bcxy", 0));
        due(2, log(0, "xy"));
        dueLog(0, "a***", 0, 1);
        edge(11, "FORMS of REVOKED ones count too, their OLD ones as well");
        with("abcd");
        due(1, set(0, "wxyz", 5));
        due(true, x.revoke(0));
        due(8, log(0, "abcdwxyz"));
        dueLog(0, "******", 0, 2);
        edge(11, "a VALUE that a STEP alone keeps has no FORMS");
        with("abcd");
        due(1, set(0, "wxyz", 5));
        due(1, set(0, "mnop", 5));
        due('a', x.read(0, 0, 0));
        due(4, log(0, "abcd"));
        dueLog(0, "abcd", 0, 0);
    }

    private static void close() {
        for (int none : new int[] {-1, 1, 12, LEAST, MOST}) {
            edge(12, "NONE if there is none such: " + none);
            due(0, x.step(0, 0, 0, false));
            due(NONE, x.close(none));
            due(1, log(0, "a"));
        }
        edge(12, "NONE if it is CLOSED");
        due(0, x.step(0, 0, 0, false));
        due(1, log(0, "a"));
        due(1, x.close(0));
        due(NONE, x.close(0));
        due(NONE, x.close(0));
        dueLog(0, "a", 0, 0);
        edge(12, "an empty LOG: 0");
        due(0, x.step(0, 0, 0, false));
        due(0, x.close(0));
        edge(12, "a full LOG: 300");
        due(0, x.step(0, 0, 0, false));
        due(300, log(0, "z".repeat(300)));
        due(300, x.close(0));
        edge(12, "how many characters are told in all, what was HELD among them");
        with("abcd");
        due(8, log(0, "-abcd-ab"));
        due(7, x.close(0));
        dueLog(0, "-***-ab", 0, 1);
        edge(12, "HELD and whole: COVERED as if nothing more could come");
        with("abcd", "abcdef");
        due(5, log(0, "abcde"));
        due(4, x.close(0));
        dueLog(0, "***e", 0, 1);
        edge(12, "a FORM within what is HELD is COVERED");
        with("xabcdy", "abcd");
        due(5, log(0, "xabcd"));
        dueLog(0, "", 5, 0);
        due(4, x.close(0));
        dueLog(0, "x***", 0, 1);
        edge(12, "several FORMS within what is HELD are COVERED");
        with("aaaabbbbcccc", "aaaa", "bbbb");
        due(10, log(0, "aaaabbbbcc"));
        dueLog(0, "", 10, 0);
        due(8, x.close(0));
        dueLog(0, "******cc", 0, 2);
        edge(12, "FORMS are those of when it is CLOSED: one less");
        with("abcd", "abcdef");
        due(4, log(0, "abcd"));
        due(1, set(0, "wxyz", 0));
        due(4, x.close(0));
        dueLog(0, "abcd", 0, 0);
        edge(12, "FORMS are those of when it is CLOSED: one more");
        with("abcdef");
        due(5, log(0, "abcde"));
        due(1, x.secret(0, 0, 0));
        due(1, set(1, "bcde", 0));
        due(4, x.close(0));
        dueLog(0, "a***", 0, 1);
        edge(12, "the TAPE stays as it is");
        due(0, x.step(0, 0, 0, false));
        due(1, x.step(0, 0, 0, false));
        typeAll("ab");
        due(0, x.close(0));
        due(2, x.log(1));
    }

    private static void told() {
        for (int none : new int[] {-1, 1, 12, LEAST, MOST}) {
            edge(13, "NONE if there is no such STEP: " + none);
            due(0, x.step(0, 0, 0, false));
            due(1, log(0, "a"));
            due(NONE, x.told(none, 0));
        }
        for (int none : new int[] {-1, 2, 299, 300, LEAST, MOST}) {
            edge(13, "NONE if there is no such character: " + none);
            due(0, x.step(0, 0, 0, false));
            due(2, log(0, "ab"));
            due(NONE, x.told(0, none));
        }
        edge(13, "NONE of an empty LOG");
        due(0, x.step(0, 0, 0, false));
        due(NONE, x.told(0, 0));
        edge(13, "NONE for what is HELD, till it is told");
        with("abcd");
        due(3, log(0, "-ab"));
        due('-', x.told(0, 0));
        due(NONE, x.told(0, 1));
        due(3, x.close(0));
        due('a', x.told(0, 1));
        due('b', x.told(0, 2));
        due(NONE, x.told(0, 3));
        edge(13, "the first and the last of 300, and none behind it");
        due(0, x.step(0, 0, 0, false));
        due(300, log(0, " " + "z".repeat(298) + "~"));
        due(32, x.told(0, 0));
        due(126, x.told(0, 299));
        due(NONE, x.told(0, 300));
    }

    private static void about() {
        for (int none : new int[] {-1, 1, 12, LEAST, MOST}) {
            edge(14, "NONE if there is none such: " + none);
            due(0, x.step(0, 0, 0, false));
            for (int what = 0; what < 3; what++) {
                due(NONE, x.about(none, what));
            }
        }
        for (int other : new int[] {-1, 3, LEAST, MOST}) {
            edge(14, "NONE for another what: " + other);
            due(0, x.step(0, 0, 0, false));
            due(NONE, x.about(0, other));
        }
        edge(14, "of an empty LOG: 0, 0, 0");
        due(0, x.step(0, 0, 0, false));
        dueLog(0, "", 0, 0);
        edge(14, "of a LOG that is HELD whole: none told");
        with("abcd");
        due(3, log(0, "abc"));
        due(0, x.about(0, 0));
        due(3, x.about(0, 1));
        due(0, x.about(0, 2));
        edge(14, "of a CLOSED LOG: nothing is HELD");
        with("abcd", "abcdef");
        due(8, log(0, "abcdabcd"));
        due(3, x.about(0, 0));
        due(4, x.about(0, 1));
        due(1, x.about(0, 2));
        due(6, x.close(0));
        due(6, x.about(0, 0));
        due(0, x.about(0, 1));
        due(2, x.about(0, 2));
        edge(14, "*** that came as text isn't COVERED");
        with("abcd");
        due(3, log(0, "***"));
        dueLog(0, "***", 0, 0);
        edge(14, "of a full LOG: 300 told");
        due(0, x.step(0, 0, 0, false));
        due(300, log(0, "z".repeat(300)));
        due(300, x.about(0, 0));
        due(0, x.about(0, 1));
    }

    // ---- promises 15 and 16

    private static void token() {
        for (int wrong : new int[] {0, -1, 100001, LEAST, MOST}) {
            edge(15, "NONE if the time isn't 1 .. 100000: " + wrong);
            with("abcd");
            due(NONE, x.token(0, 0, wrong));
            due(false, x.good(0));
            due(0, x.token(0, 0, 1));
        }
        for (int right : new int[] {1, 100000}) {
            edge(15, "ENDS so many ticks from now: " + right);
            with("abcd");
            due(3, x.tick(3));
            due(0, x.token(0, 0, right));
            due(right + 2, x.tick(right - 1));
            due(true, x.good(0));
            due(right + 3, x.tick(1));
            due(false, x.good(0));
        }
        for (int none : new int[] {-1, 1, 12, LEAST, MOST}) {
            edge(15, "NONE if there is no such STEP: " + none);
            with("abcd");
            due(NONE, x.token(none, 0, 1));
            due(0, x.token(0, 0, 1));
        }
        for (int none : new int[] {-1, 1, 9, 10, LEAST, MOST}) {
            edge(15, "NONE if there is no such SECRET: " + none);
            with("abcd");
            due(NONE, x.token(0, none, 1));
            due(0, x.token(0, 0, 1));
        }
        edge(15, "NONE if the STEP doesn't SEE the SECRET: OUTSIDE, RULES, no VALUE, REVOKED");
        secretsWith("abcd", "efgh");
        due(2, x.secret(254, 255, 255));
        due(1, set(2, "ijkl", 0));
        due(3, x.secret(255, 255, 255));
        due(true, x.revoke(1));
        due(0, x.step(0, 0, 0, true));
        due(1, x.step(0, 0, 0, false));
        due(NONE, x.token(0, 0, 1));
        due(NONE, x.token(1, 1, 1));
        due(NONE, x.token(1, 2, 1));
        due(NONE, x.token(1, 3, 1));
        due(0, x.token(1, 0, 1));
        edge(15, "its number, from 0 on; at most 20");
        with("abcd");
        for (int i = 0; i < 20; i++) {
            due(i, x.token(0, 0, 5));
        }
        due(true, x.good(19));
        edge(15, "NONE if there are 20");
        with("abcd");
        for (int i = 0; i < 20; i++) {
            due(i, x.token(0, 0, 5));
        }
        due(NONE, x.token(0, 0, 5));
        due(NONE, x.token(0, 0, 0));
        due(false, x.good(20));
        due(true, x.good(0));
        edge(15, "NONE if there are 20, though they have ENDED");
        with("abcd");
        for (int i = 0; i < 20; i++) {
            due(i, x.token(0, 0, 1));
        }
        due(1, x.tick(1));
        due(NONE, x.token(0, 0, 5));
        edge(15, "making one isn't reading: not told in the AUDIT");
        with("abcd");
        due(0, x.token(0, 0, 5));
        due(NONE, x.audit(0, 0));
        edge(15, "a STEP SEES what it saw when it began: a SECRET that was rotated or REVOKED since");
        with("abcd", "efgh");
        due(1, set(0, "ijkl", 5));
        due(true, x.revoke(1));
        due(0, x.token(0, 0, 5));
        due(1, x.token(0, 1, 5));
        due(false, x.good(0));
        due(false, x.good(1));
    }

    private static void good() {
        for (int none : new int[] {-1, 1, 19, 20, LEAST, MOST}) {
            edge(16, "false if there is none such: " + none);
            with("abcd");
            due(0, x.token(0, 0, 5));
            due(false, x.good(none));
            due(true, x.good(0));
        }
        edge(16, "as long as the CLOCK is below its END, and not at it or behind it");
        with("abcd");
        due(0, x.token(0, 0, 5));
        due(4, x.tick(4));
        due(true, x.good(0));
        due(5, x.tick(1));
        due(false, x.good(0));
        due(6, x.tick(1));
        due(false, x.good(0));
        edge(16, "a refused tick ENDS none");
        with("abcd");
        due(0, x.token(0, 0, 5));
        due(NONE, x.tick(100001));
        due(true, x.good(0));
        edge(16, "the SECRET isn't REVOKED; another may be");
        with("abcd", "efgh");
        due(0, x.token(0, 0, 5));
        due(1, x.token(0, 1, 5));
        due(true, x.revoke(0));
        due(false, x.good(0));
        due(true, x.good(1));
        edge(16, "its VALUE is still the one that the STEP has: an OLD one that counts isn't");
        with("abcd", "efgh");
        due(0, x.token(0, 0, 5));
        due(1, x.token(0, 1, 5));
        due(1, set(0, "ijkl", 5));
        due(false, x.good(0));
        due(true, x.good(1));
        edge(16, "the same text, set anew since, is another one");
        with("abcd");
        due(0, x.token(0, 0, 5));
        due(1, set(0, "efgh", 0));
        due(1, set(0, "ijkl", 0));
        due(1, set(0, "abcd", 0));
        due(false, x.good(0));
        due(1, x.token(0, 0, 5));
        due(false, x.good(1));
        due(1, x.step(0, 0, 0, false));
        due(2, x.token(1, 0, 5));
        due(true, x.good(2));
        edge(16, "a refused set leaves it GOOD");
        with("abcd");
        due(0, x.token(0, 0, 5));
        due(-3, set(0, "abcd", 0));
        due(-2, set(0, "x", 0));
        due(-1, set(0, "efgh", -1));
        due(true, x.good(0));
        edge(16, "a CLOSED STEP's TOKEN stays GOOD");
        with("abcd");
        due(0, x.token(0, 0, 5));
        due(0, x.close(0));
        due(true, x.good(0));
    }

    // ---- promises 17 and 18

    private static void scan() {
        edge(17, "NONE if there is none: an empty TAPE");
        secretsWith("abcd");
        due(NONE, x.scan());
        edge(17, "NONE if there is none: no FORMS");
        due(NONE, scan("abcd"));
        edge(17, "NONE if there is none: another text");
        secretsWith("abcd");
        due(NONE, scan("abdc ABCD"));
        edge(17, "whole: NONE if its first or its last character lacks");
        secretsWith("abcd");
        due(NONE, scan("bcd abc"));
        due(NONE, scan("abc"));
        due(NONE, scan("6162636"));
        due(NONE, scan("1626364"));
        edge(17, "the place of the first one: 0");
        secretsWith("abcd");
        due(0, scan("abcd"));
        due(0, scan("abcdabcd"));
        edge(17, "the place of the first one, of several");
        secretsWith("abcd", "wxyz");
        due(2, scan("--wxyz-abcd"));
        due(3, scan("abcabcd"));
        edge(17, "at the very end of a full TAPE");
        secretsWith("abcd");
        due(296, scan("-".repeat(296) + "abcd"));
        edge(17, "NONE if the last character would come behind a full TAPE");
        secretsWith("abcd");
        typeAll("-".repeat(297) + "abc");
        due(false, x.type('d'));
        due(NONE, x.scan());
        edge(17, "the TAPE is empty then, whether one is found or not");
        secretsWith("abcd");
        due(1, scan("-abcd"));
        due(NONE, x.scan());
        due(NONE, scan("ab"));
        due(NONE, scan("cd"));
        dueTapeIsEmpty();
    }

    private static void scanForms() {
        edge(17, "all FORMS: as it is, from the end, by codes; of 4 and of 12");
        secretsWith("jK~!", "abcdefghijkl");
        due(1, scan("-jK~!"));
        due(1, scan("-!~Kj"));
        due(1, scan("-6a4b7e21"));
        due(1, scan("-abcdefghijkl"));
        due(1, scan("-lkjihgfedcba"));
        due(1, scan("-6162636465666768696a6b6c"));
        due(NONE, scan("-6A4B7E21"));
        edge(17, "FORMS of an OLD one count till its time is over");
        secretsWith("abcd");
        due(1, set(0, "efgh", 2));
        due(1, x.tick(1));
        due(0, scan("abcd"));
        due(0, scan("dcba"));
        due(0, scan("61626364"));
        due(2, x.tick(1));
        due(NONE, scan("abcd"));
        due(NONE, scan("dcba"));
        due(NONE, scan("61626364"));
        edge(17, "FORMS of a REVOKED one count, its OLD one's till the time is over");
        secretsWith("abcd");
        due(1, set(0, "efgh", 2));
        due(true, x.revoke(0));
        due(0, scan("efgh"));
        due(0, scan("abcd"));
        due(2, x.tick(2));
        due(0, scan("efgh"));
        due(NONE, scan("abcd"));
        edge(17, "all FORMS that can be: 10 SECRETS with a VALUE and an OLD one each");
        for (int i = 0; i < 10; i++) {
            due(i, x.secret(0, 0, 0));
            due(1, set(i, "old" + i, 0));
            due(1, set(i, "new" + i, 1));
        }
        due(0, scan("old0"));
        due(0, scan("6f6c6430"));
        due(0, scan("9dlo"));
        due(0, scan("6f6c6439"));
        due(0, scan("6e657739"));
        dueLeak(9, 2, 0);
        edge(17, "a VALUE that a STEP alone keeps isn't scanned for");
        with("abcd");
        due(1, set(0, "efgh", 0));
        due(NONE, scan("abcd"));
        edge(17, "scanning isn't logging: nothing comes to a LOG");
        with("abcd");
        due(1, scan("-abcd"));
        dueLog(0, "", 0, 0);
    }

    private static void leak() {
        edge(18, "NONE if there was none: no scan yet");
        secretsWith("abcd");
        dueLeak(NONE, NONE, NONE);
        edge(18, "NONE if there was none: none that found one");
        secretsWith("abcd");
        due(NONE, scan("abc"));
        dueLeak(NONE, NONE, NONE);
        for (int other : new int[] {-1, 3, LEAST, MOST}) {
            edge(18, "NONE for another what: " + other);
            secretsWith("abcd");
            due(0, scan("abcd"));
            due(NONE, x.leak(other));
        }
        edge(18, "the latest scan that found one: one that finds none leaves it");
        secretsWith("abcd", "efgh");
        due(0, scan("hgfe"));
        due(NONE, scan("none"));
        due(NONE, x.scan());
        dueLeak(1, 1, 0);
        edge(18, "the latest scan that found one: not an earlier one");
        secretsWith("abcd", "efgh");
        due(0, scan("hgfe"));
        due(0, scan("61626364"));
        dueLeak(0, 2, 0);
        edge(18, "what was found stays, though its VALUE goes");
        secretsWith("abcd");
        due(1, set(0, "efgh", 1));
        due(0, scan("abcd"));
        due(1, x.tick(1));
        due(1, set(0, "ijkl", 0));
        due(true, x.revoke(0));
        dueLeak(0, 0, 1);
        edge(18, "0 as it is, 1 from the end, 2 by codes");
        secretsWith("abcd");
        due(0, scan("abcd"));
        dueLeak(0, 0, 0);
        due(0, scan("dcba"));
        dueLeak(0, 1, 0);
        due(0, scan("61626364"));
        dueLeak(0, 2, 0);
        edge(18, "whether that was an OLD VALUE: 1, 0");
        secretsWith("abcd");
        due(1, set(0, "efgh", 1));
        due(0, scan("61626364"));
        dueLeak(0, 2, 1);
        due(0, scan("65666768"));
        dueLeak(0, 2, 0);
    }

    private static void leakOfLikeOnes() {
        edge(18, "the longest FORM at that place, not the least SECRET");
        secretsWith("abcd", "abcdef", "abcde");
        due(0, scan("abcdefg"));
        dueLeak(1, 0, 0);
        due(0, scan("abcdeg"));
        dueLeak(2, 0, 0);
        edge(18, "the longest FORM at that place, not one behind it");
        secretsWith("abcd", "bcdefghi");
        due(0, scan("abcdefghi"));
        dueLeak(0, 0, 0);
        edge(18, "the longest FORM at that place, not one that isn't whole");
        secretsWith("abcdefgh", "abcd");
        due(0, scan("abcdefg"));
        dueLeak(1, 0, 0);
        edge(18, "the longest FORM, though a shorter FORM of the same VALUE comes before it");
        secretsWith("3333");
        due(0, scan("33333333"));
        dueLeak(0, 2, 0);
        due(0, scan("3333333"));
        dueLeak(0, 0, 0);
        edge(18, "the longest FORM, though it is of the VALUE that was set later");
        secretsWith("abcd");
        due(1, set(0, "abcdef", 5));
        due(0, scan("abcdef"));
        dueLeak(0, 0, 0);
        due(0, scan("abcde"));
        dueLeak(0, 0, 1);
        edge(18, "of like ones the least SECRET, whichever was set first and whichever FORM");
        due(0, x.secret(0, 0, 0));
        due(1, x.secret(0, 0, 0));
        due(1, set(1, "abcd", 0));
        due(1, set(0, "dcba", 0));
        due(0, scan("abcd"));
        dueLeak(0, 1, 0);
        due(0, scan("dcba"));
        dueLeak(0, 0, 0);
        edge(18, "of like ones the least SECRET, though another's was OLD");
        secretsWith("zzzz", "abcd");
        due(1, set(1, "wxyz", 5));
        due(1, set(0, "dcba", 5));
        due(0, scan("abcd"));
        dueLeak(0, 1, 0);
        edge(18, "of its VALUES the one that was set first");
        secretsWith("abcd");
        due(1, set(0, "dcba", 5));
        due(0, scan("dcba"));
        dueLeak(0, 1, 1);
        due(0, scan("abcd"));
        dueLeak(0, 0, 1);
        edge(18, "of its VALUES the one that was set first, till its time is over");
        secretsWith("abcd");
        due(1, set(0, "dcba", 5));
        due(5, x.tick(5));
        due(0, scan("dcba"));
        dueLeak(0, 0, 0);
        due(0, scan("abcd"));
        dueLeak(0, 1, 0);
        edge(18, "the first FORM that fits: the same both ways");
        secretsWith("abba");
        due(0, scan("abba"));
        dueLeak(0, 0, 0);
    }

    /** The class under test, with its calls counted and the latest one told. */
    private static final class Rows {
        private final SecretRows rows = new SecretRows();
        private int calls = 0;
        private String latest = "";

        private void call(String name, int... arguments) {
            calls++;
            StringBuilder text = new StringBuilder(name).append('(');
            for (int i = 0; i < arguments.length; i++) {
                text.append(i == 0 ? "" : ", ").append(arguments[i]);
            }
            latest = text.append(')').toString();
        }

        int secret(int environments, int branches, int jobs) {
            call("secret", environments, branches, jobs);
            return rows.secret(environments, branches, jobs);
        }

        boolean type(char c) {
            call("type", c);
            return rows.type(c);
        }

        int set(int secret, int ticks) {
            call("set", secret, ticks);
            return rows.set(secret, ticks);
        }

        boolean revoke(int secret) {
            call("revoke", secret);
            return rows.revoke(secret);
        }

        int tick(int n) {
            call("tick", n);
            return rows.tick(n);
        }

        int step(int environment, int branch, int job, boolean outside) {
            call("step", environment, branch, job, outside ? 1 : 0);
            return rows.step(environment, branch, job, outside);
        }

        int sees(int step, int i) {
            call("sees", step, i);
            return rows.sees(step, i);
        }

        int read(int step, int secret, int i) {
            call("read", step, secret, i);
            return rows.read(step, secret, i);
        }

        int audit(int i, int what) {
            call("audit", i, what);
            return rows.audit(i, what);
        }

        int log(int step) {
            call("log", step);
            return rows.log(step);
        }

        int close(int step) {
            call("close", step);
            return rows.close(step);
        }

        int told(int step, int i) {
            call("told", step, i);
            return rows.told(step, i);
        }

        int about(int step, int what) {
            call("about", step, what);
            return rows.about(step, what);
        }

        int token(int step, int secret, int ticks) {
            call("token", step, secret, ticks);
            return rows.token(step, secret, ticks);
        }

        boolean good(int token) {
            call("good", token);
            return rows.good(token);
        }

        int scan() {
            call("scan");
            return rows.scan();
        }

        int leak(int what) {
            call("leak", what);
            return rows.leak(what);
        }
    }
}
