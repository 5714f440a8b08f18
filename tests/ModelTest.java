import java.util.ArrayList;
import java.util.List;
import java.util.Random;

/** All promises: long runs of calls drawn at random, each answer compared with the model's. */
public final class ModelTest {
    private static final int RUNS = 400;
    private static final int CALLS = 512;

    private final Random random;
    private final Texts texts;
    private final RoundSentences x = new RoundSentences();
    private final Model model = new Model();
    private final List<String> told = new ArrayList<>();
    private boolean wrong;

    private ModelTest(long seed) {
        random = new Random(seed);
        texts = new Texts(random);
    }

    public static void main(String[] args) {
        int runs = args.length > 0 ? Integer.parseInt(args[0]) : RUNS;
        for (int run = 0; run < runs; run++) {
            ModelTest test = new ModelTest(run);
            if (run % 8 != 0) {
                test.tellFour();
            }
            while (test.told.size() < CALLS && !test.wrong) {
                test.call();
            }
            if (test.wrong) {
                System.out.println("run " + run + ":");
                test.told.forEach(System.out::println);
                System.exit(1);
            }
        }
        System.out.println(runs + " runs are as the model's");
    }

    /** Four DRUMS that run, KEPT, so that most calls after it have something to look at. */
    private void tellFour() {
        int letters = 1 + random.nextInt(4);
        for (int k = 0; k < 4; k++) {
            int n = text(texts.plainDrum(letters));
            due("drum " + k, x.drum(k, n), model.drum(k, n));
        }
        int n = text("0+" + random.nextInt(300) + ";1+" + random.nextInt(20) + ";2+9;3+" + random.nextInt(999));
        due("orders", x.orders(n), model.orders(n));
        due("keep", x.keep(), model.keep());
    }

    private void due(String call, long got, long want) {
        told.add(call + " answered " + got + (got == want ? "" : ", due is " + want));
        wrong |= got != want;
    }

    private void bytes(int... bytes) {
        int[] w = new int[5];
        for (int i = 0; i < bytes.length || i % 20 != 0; i++) {
            int b = i < bytes.length ? bytes[i] : 'z';
            w[i % 20 / 4] = w[i % 20 / 4] << 8 | b;
            if (i % 20 == 19) {
                due("feed", x.feed(w[0], w[1], w[2], w[3], w[4]), model.feed(w));
            }
        }
    }

    private int text(String s) {
        told.add("text " + s);
        bytes(s.chars().toArray());
        return s.length();
    }

    private void emptyTape() {
        due("check 0", x.check(0), model.check(0));
    }

    /** Mostly a DRUM that may be told. */
    private int drumNumber() {
        return random.nextInt(30) == 0 ? random.nextInt(12) - 2 : random.nextInt(4);
    }

    private int near(int least, int most) {
        int r = random.nextInt(20);
        return r == 0 ? least - 1 : r == 1 ? most + 1 : r == 2 ? most : least + random.nextInt(most - least + 1);
    }

    private int n() {
        return random.nextInt(6) == 0 ? near(1, 240) : 1 + random.nextInt(20);
    }

    private void call() {
        if (model.count(6) > 0 && random.nextInt(4) > 0) {
            emptyTape();
        }
        int k = drumNumber();
        int l = drumNumber();
        int what;
        switch (random.nextInt(40)) {
            case 0, 1, 2, 3 -> {
                int n = text(random.nextBoolean() ? texts.drum() : texts.plainDrum(1 + random.nextInt(6)));
                due("drum " + k, x.drum(k, n), model.drum(k, n));
            }
            case 4, 5, 6 -> {
                int n = text(texts.orders());
                due("orders", x.orders(n), model.orders(n));
            }
            case 7, 8, 9 -> {
                int n = text(texts.law());
                due("law", x.law(n), model.law(n));
            }
            case 10 -> {
                int n = n();
                due("ticks " + n, x.ticks(n), model.ticks(n));
            }
            case 11, 12 -> {
                int n = n();
                what = random.nextInt(3) == 0 ? near(0, 2) : 10 * near(1, 3) + k;
                due("tried " + n + " " + what, x.tried(n, what), model.tried(n, what));
            }
            case 13 -> {
                int n = n();
                due("done " + k + " " + n, x.done(k, n), model.done(k, n));
            }
            case 14 -> {
                int n = n() - 1;
                due("seen " + k + " " + n, x.seen(k, n), model.seen(k, n));
            }
            case 15 -> {
                int n = n();
                int p = random.nextBoolean() ? near(0, 16) : random.nextInt(3);
                due("often " + k + " " + p + " " + n, x.often(k, p, n), model.often(k, p, n));
            }
            case 16 -> {
                what = near(0, 7);
                due("drumIs " + k + " " + what, x.drumIs(k, what), model.drumIs(k, what));
            }
            case 17 -> {
                what = near(0, 1);
                int i = near(0, 15);
                due("frameIs " + k + " " + i + " " + what, x.frameIs(k, i, what), model.frameIs(k, i, what));
            }
            case 18 -> same(k, l);
            case 19 -> {
                what = near(0, 6);
                due("story " + k + " " + what, x.story(k, what), model.story(k, what));
            }
            case 20 -> {
                int d = near(1, 16);
                due("painted " + k + " " + d, x.painted(k, d), model.painted(k, d));
            }
            case 21 -> due("edits " + k + " " + l, x.edits(k, l), model.edits(k, l));
            case 22 -> due("common " + k + " " + l, x.common(k, l), model.common(k, l));
            case 23 -> twins(k, l);
            case 24 -> {
                if (random.nextInt(10) > 0) {
                    bytes(near(0, 15) & 255, near(0, 15) & 255, near(0, 4) & 255, near(0, 16) & 255);
                }
                due("both " + k + " " + l, x.both(k, l), model.both(k, l));
            }
            case 25 -> paced(k);
            case 26 -> {
                int length = near(1, 16);
                due("words " + k + " " + length, x.words(k, length), model.words(k, length));
            }
            case 27 -> {
                what = near(0, 2);
                int eyes = random.nextBoolean() ? random.nextInt(32) : near(0, 65535);
                due("crowd " + k + " " + eyes + " " + what, x.crowd(k, eyes, what), model.crowd(k, eyes, what));
            }
            case 28 -> {
                what = random.nextBoolean() ? 100 : random.nextInt(10) == 0 ? 101 : k;
                due("linked " + what, x.linked(what), model.linked(what));
            }
            case 29 -> due("unseen " + k, x.unseen(k), model.unseen(k));
            case 30 -> necklaces();
            case 31 -> leaving();
            case 32 -> {
                what = near(0, 1);
                int m = near(1, 16);
                due("marked " + k + " " + m + " " + what, x.marked(k, m, what), model.marked(k, m, what));
            }
            case 33 -> {
                int s = near(0, 65535);
                due("seed " + s, x.seed(s) ? 1 : 0, model.seed(s) ? 1 : 0);
            }
            case 34 -> due("keep", x.keep(), model.keep());
            case 35 -> due("undo", x.undo() ? 1 : 0, model.undo() ? 1 : 0);
            case 36 -> check();
            case 37, 38 -> {
                what = near(0, 7);
                due("count " + what, x.count(what), model.count(what));
            }
            default -> all();
        }
    }

    private void same(int k, int l) {
        boolean turned = random.nextBoolean();
        due("same " + k + " " + l + " " + turned, x.same(k, l, turned), model.same(k, l, turned));
    }

    private void twins(int k, int l) {
        int what = near(0, 1);
        due("twins " + k + " " + l + " " + what, x.twins(k, l, what), model.twins(k, l, what));
    }

    private void paced(int k) {
        int n = random.nextInt(4) == 0 ? near(1, 16) : 1 + random.nextInt(4);
        int what = near(0, 1);
        int pace = random.nextInt(16);
        int from = random.nextInt(16);
        int frames = Math.max(1, model.drumIs(k, 0));
        int[] word = new int[Math.max(n, 0)];
        for (int i = 0; i < word.length; i++) {
            int due = model.frameIs(k, (from + i * pace) % frames, 0);
            word[i] = due < 0 || random.nextInt(20) == 0 ? near(0, 16) & 255 : due;
        }
        bytes(word);
        due("paced " + k + " " + n + " " + what, x.paced(k, n, what), model.paced(k, n, what));
    }

    private void necklaces() {
        int n = near(1, 12);
        int k = near(1, n > 10 ? 2 : n > 7 ? 3 : n > 5 ? 4 : n > 3 ? 8 : 16);
        boolean any = random.nextBoolean();
        if (n > 12 || n < 1 || k < 1 || Math.pow(k, n) <= 5000) {
            due("necklaces " + n + " " + k + " " + any, x.necklaces(n, k, any), model.necklaces(n, k, any));
        }
    }

    private void leaving() {
        int n = near(1, 10);
        int[] pairs = new int[2 * Math.max(n, 0)];
        int spread = random.nextBoolean() ? 4 : 256;
        for (int i = 0; i < pairs.length; i += 2) {
            pairs[i] = random.nextInt(8) == 0 ? 255 : random.nextInt(spread);
            pairs[i + 1] = random.nextInt(4) == 0 ? near(0, 50) & 255 : random.nextInt(4);
        }
        bytes(pairs);
        due("leaving " + n, x.leaving(n), model.leaving(n));
    }

    private void check() {
        emptyTape();
        int n = near(0, 8);
        int[] row = new int[8];
        for (int i = 0; i < 8; i++) {
            row[i] = random.nextInt(30) == 0 ? random.nextInt(256) : model.drumIs(i, 1) & 255;
        }
        bytes(row);
        due("check " + n, x.check(n), model.check(n));
    }

    /** The whole state, so that nothing changes unseen. */
    private void all() {
        for (int what = 0; what < 8; what++) {
            due("count " + what, x.count(what), model.count(what));
        }
        int k = random.nextInt(5);
        for (int what = 0; what < 8; what++) {
            due("drumIs " + k + " " + what, x.drumIs(k, what), model.drumIs(k, what));
        }
        for (int i = 0; i < model.drumIs(k, 0); i++) {
            due("frameIs " + k + " " + i, x.frameIs(k, i, 0), model.frameIs(k, i, 0));
            due("frameIs " + k + " " + i, x.frameIs(k, i, 1), model.frameIs(k, i, 1));
        }
    }
}
