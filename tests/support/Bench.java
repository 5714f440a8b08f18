/** One object under test, fed with texts and bytes; wrong answers are counted over all benches. */
final class Bench {
    private static int asked = 0;
    private static int wrong = 0;
    private static String sentence = "";

    final RoundSentences x = new RoundSentences();

    /** The document's words to which the answers asked for next are held; told with a wrong one. */
    static void says(String words) {
        sentence = words;
    }

    static void due(String call, long got, long want) {
        asked++;
        if (got != want) {
            wrong++;
            System.out.println(call + " answered " + got + ", due is " + want
                    + (sentence.isEmpty() ? "" : " (" + sentence + ")"));
        }
    }

    /** One object with these DRUMS, from 0 on. */
    static Bench of(String... drums) {
        Bench b = new Bench();
        for (int k = 0; k < drums.length; k++) {
            due("drum " + k + " " + drums[k], b.drum(k, drums[k]) > 0, true);
        }
        return b;
    }

    static void due(String call, boolean got, boolean want) {
        due(call, got ? 1 : 0, want ? 1 : 0);
    }

    /** Ends the test with exit code 1 if an answer was wrong. */
    static void end() {
        System.out.println(asked + " answers, " + wrong + " wrong");
        if (wrong != 0) {
            System.exit(1);
        }
    }

    /** Feeds the bytes, filled up to twenties with the sign z, which no text can hold. */
    void bytes(int... bytes) {
        for (int i = 0; i < bytes.length; i += 20) {
            int[] words = new int[5];
            for (int j = 0; j < 20; j++) {
                int b = i + j < bytes.length ? bytes[i + j] : 'z';
                words[j / 4] = words[j / 4] << 8 | b & 255;
            }
            x.feed(words[0], words[1], words[2], words[3], words[4]);
        }
    }

    void text(String text) {
        int[] bytes = new int[text.length()];
        for (int i = 0; i < bytes.length; i++) {
            bytes[i] = text.charAt(i);
        }
        bytes(bytes);
    }

    int drum(int k, String text) {
        text(text);
        return x.drum(k, text.length());
    }

    int orders(String text) {
        text(text);
        return x.orders(text.length());
    }

    int law(String text) {
        text(text);
        return x.law(text.length());
    }

    void dueDrum(int k, String text, int want) {
        due("drum " + k + " " + text, drum(k, text), want);
    }

    void dueOrders(String text, int want) {
        due("orders " + text, orders(text), want);
    }

    void dueLaw(String text, int want) {
        due("law " + text, law(text), want);
    }

    int both(int k, int l, int... bytes) {
        bytes(bytes);
        return x.both(k, l);
    }

    int paced(int k, int what, int... word) {
        bytes(word);
        return x.paced(k, word.length, what);
    }

    int leaving(int... pairs) {
        bytes(pairs);
        return x.leaving(pairs.length / 2);
    }

    int check(int... positions) {
        bytes(positions);
        return x.check(positions.length);
    }

    /** The FRAMES of a told DRUM as letters and gaps. */
    String row(int k) {
        StringBuilder s = new StringBuilder();
        for (int i = 0; i < x.drumIs(k, 0); i++) {
            s.append("abcdefghijklmnop-".charAt(x.frameIs(k, i, 0)));
        }
        return s.toString();
    }

    static void due(String call, String got, String want) {
        due(call + " (" + got + " for " + want + ")", got.equals(want), true);
    }

    /** What is asked of a told DRUM: FRAMES, POSITION, TURNS LEFT, WAY GONE, PACE, PARDONED, shown, gaps. */
    void dueDrumIs(int k, int... want) {
        for (int what = 0; what < want.length; what++) {
            due("drumIs " + k + " " + what, x.drumIs(k, what), want[what]);
        }
    }

    /** All that can be asked of the state without the tape, as one text. */
    String state() {
        StringBuilder s = new StringBuilder();
        for (int what = 0; what <= 7; what++) {
            if (what != 6) {
                s.append(x.count(what)).append(' ');
            }
        }
        for (int k = 0; k < 8; k++) {
            int frames = x.drumIs(k, 0);
            for (int what = 1; what <= 7 && frames > 0; what++) {
                s.append(x.drumIs(k, what)).append(' ');
            }
            for (int i = 0; i < frames; i++) {
                s.append(x.frameIs(k, i, 0)).append('/').append(x.frameIs(k, i, 1)).append(' ');
            }
        }
        return s.toString();
    }
}
