import java.util.Random;

/** Any call with any numbers in any state answers, never throws, and answers the same in a twin of the object. */
public final class StormTest {
    private static final int RUNS = 600;
    // Some of them make several, and none is promised behind the 512th.
    private static final int CALLS = 320;
    private static final String SIGNS = "abcpq-0123456789(()))[]!!;;;||&&<>==+-*/%@#?vvaallxxkpnufsgtw \u0000\u007f\u0080\u00ff";
    private static final int[] EDGES = {
        Integer.MIN_VALUE, Integer.MIN_VALUE + 1, -65536, -17, -8, -2, -1, 0, 1, 2, 3, 4, 7, 8, 9, 10, 11, 15, 16, 17,
        20, 30, 37, 40, 50, 51, 60, 61, 99, 100, 120, 121, 239, 240, 241, 255, 256, 259, 260, 261, 65535, 65536,
        1 << 30, Integer.MAX_VALUE - 1, Integer.MAX_VALUE
    };

    private final Random random;
    private final RoundSentences x = new RoundSentences();

    private StormTest(long seed) {
        random = new Random(seed);
    }

    public static void main(String[] args) {
        for (int run = 0; run < RUNS; run++) {
            StormTest one = new StormTest(run);
            StormTest twin = new StormTest(run);
            for (int call = 0; call < CALLS; call++) {
                Bench.due("run " + run + ", call " + call, one.call(), twin.call());
            }
        }
        Bench.end();
    }

    private int any() {
        int kind = random.nextInt(8);
        return kind == 0 ? random.nextInt() : kind < 3 ? EDGES[random.nextInt(EDGES.length)] : random.nextInt(18) - 1;
    }

    private int k() {
        return random.nextInt(6) == 0 ? any() : random.nextInt(8);
    }

    private int signs() {
        int word = 0;
        for (int i = 0; i < 4; i++) {
            word = word << 8 | SIGNS.charAt(random.nextInt(SIGNS.length()));
        }
        return word;
    }

    private int feed() {
        return random.nextBoolean()
                ? x.feed(signs(), signs(), signs(), signs(), signs())
                : x.feed(any(), any(), random.nextInt(), any(), any());
    }

    private int sound(String text, boolean law) {
        x.check(0);
        int length = text.length();
        for (int i = 0; i < length; i += 20) {
            int[] w = new int[5];
            for (int j = 0; j < 20; j++) {
                w[j / 4] = w[j / 4] << 8 | (i + j < length ? text.charAt(i + j) : 0);
            }
            x.feed(w[0], w[1], w[2], w[3], w[4]);
        }
        return law ? x.law(length) : x.orders(length);
    }

    private long call() {
        boolean flag = random.nextBoolean();
        return switch (random.nextInt(40)) {
            case 0, 1, 2 -> feed();
            case 3 -> x.law(any());
            case 4, 5, 6 -> x.drum(k(), 1 + random.nextInt(3));
            case 7 -> x.orders(any());
            case 8 -> x.ticks(any());
            case 9 -> x.tried(any(), flag ? any() : 10 * random.nextInt(4) + k());
            case 10 -> x.drumIs(k(), any());
            case 11 -> x.frameIs(k(), any(), any());
            case 12 -> x.seen(k(), any());
            case 13 -> x.done(k(), any());
            case 14 -> x.often(k(), any(), any());
            case 15 -> x.same(k(), k(), flag);
            case 16 -> x.story(k(), any());
            case 17 -> x.painted(k(), any());
            case 18 -> x.edits(k(), k());
            case 19 -> x.common(k(), k());
            case 20 -> x.twins(k(), k(), any());
            case 21 -> x.both(k(), k());
            case 22 -> x.paced(k(), any(), flag ? 0 : any());
            case 23 -> x.words(k(), any());
            case 24 -> x.crowd(k(), any(), flag ? 1 : any());
            case 25 -> x.linked(flag ? 100 : any());
            case 26 -> x.unseen(k());
            case 27 -> x.necklaces(any(), any(), flag);
            case 28 -> x.leaving(any());
            case 29 -> x.marked(k(), any(), flag ? 1 : any());
            case 30 -> x.seed(any()) ? 1 : 0;
            case 31 -> x.keep();
            case 32 -> x.undo() ? 1 : 0;
            case 33 -> x.check(any());
            case 34 -> x.count(any());
            case 35 -> sound("v" + random.nextInt(20) + "*[w-3]/[t%3](1=1);a" + k() % 9 + 9 + "(w>p|f/g=1);l(s=w);x(u=7)", true);
            case 36, 37 -> sound(random.nextInt(8) + "+" + random.nextInt(999), false);
            default -> x.drum(k(), any());
        };
    }
}
