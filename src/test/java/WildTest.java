import java.util.Random;

/** No call throws, whatever the arguments and the state, on an object used far too long as well. */
public final class WildTest {
    private static final int RUNS = 300;
    private static final int CALLS = 4000;
    private static final int[] EDGES = {
        Integer.MIN_VALUE, Integer.MIN_VALUE + 1, -100001, -300, -2, -1, 13, 20, 24, 60, 199, 200, 299, 300,
        301, 600, 100000, 100001, 1000000000, Integer.MAX_VALUE / 3, Integer.MAX_VALUE - 1, Integer.MAX_VALUE
    };

    public static void main(String[] args) {
        for (int seed = 0; seed < RUNS; seed++) {
            Random random = new Random(seed);
            SecretRows x = new SecretRows();
            for (int i = 0; i < CALLS; i++) {
                call(x, random);
            }
        }
        System.out.println(RUNS + " wild runs ended without an exception");
    }

    private static int any(Random random) {
        return random.nextInt(4) == 0 ? EDGES[random.nextInt(EDGES.length)] : random.nextInt(13);
    }

    private static void call(SecretRows x, Random random) {
        int a = any(random);
        int b = any(random);
        int c = any(random);
        switch (random.nextInt(36)) {
            case 0 -> x.secret(random.nextInt(), -1, c);
            case 1 -> x.set(a, b);
            case 2 -> x.revoke(random.nextInt(50) == 0 ? a : EDGES[random.nextInt(EDGES.length)]);
            case 3 -> x.tick(a);
            case 4 -> x.step(a, b, c, random.nextBoolean());
            case 5 -> x.sees(a, b);
            case 6 -> x.read(a, b, c);
            case 7 -> x.audit(a, b);
            case 8, 9 -> x.log(a);
            case 10 -> x.close(random.nextInt(20) == 0 ? a : EDGES[random.nextInt(EDGES.length)]);
            case 11 -> x.told(a, b);
            case 12 -> x.about(a, b);
            case 13 -> x.token(a, b, c);
            case 14 -> x.good(a);
            case 15 -> x.scan();
            case 16 -> x.leak(a);
            case 17 -> x.type((char) random.nextInt(65536));
            default -> x.type("abc3".charAt(random.nextInt(4)));
        }
    }
}
