import java.util.Random;

/** Texts drawn at random: most of them right, some with a sign changed, put in, left out or cut off. */
final class Texts {
    private static final String SIGNS = "abcdefghijklmnopvxuwst-0123456789(()[]!!;;|&<>=+*/%@#?,z \u00ff";

    private final Random random;

    Texts(Random random) {
        this.random = random;
    }

    String drum() {
        StringBuilder s = new StringBuilder();
        row(s, 0, "abcdefghijklmnop".substring(0, 1 + random.nextInt(random.nextInt(4) == 0 ? 16 : 3)));
        return spoilt(s, 60, 6);
    }

    private void row(StringBuilder s, int depth, String letters) {
        int items = 1 + random.nextInt(depth == 0 ? 6 : 3);
        for (int i = 0; i < items; i++) {
            if (random.nextInt(4) == 0) {
                s.append(2 + (random.nextInt(6) == 0 ? random.nextInt(8) : random.nextInt(2)));
            }
            int kind = random.nextInt(9);
            if (kind == 0 && depth < 2 || kind == 1 && depth < 3 && random.nextInt(4) == 0) {
                s.append('(');
                row(s, depth + 1, letters);
                s.append(')');
            } else {
                s.append(kind == 2 ? '-' : letters.charAt(random.nextInt(letters.length())));
            }
        }
    }

    /** Sixteen different FRAMES or fewer, side by side, without a fault. */
    String plainDrum(int letters) {
        StringBuilder s = new StringBuilder();
        int n = 1 + random.nextInt(16);
        for (int i = 0; i < n; i++) {
            s.append(random.nextInt(8) == 0 ? '-' : (char) ('a' + random.nextInt(letters)));
        }
        return s.toString();
    }

    String orders() {
        StringBuilder s = new StringBuilder();
        int lines = random.nextInt(12) == 0 ? 18 + random.nextInt(5) : 1 + random.nextInt(5);
        for (int i = 0; i < lines; i++) {
            s.append(i == 0 ? "" : ";").append(random.nextInt(20) == 0 ? 7 : random.nextInt(4));
            char sign = lines > 10 ? "+!?@".charAt(random.nextInt(4)) : "++++--@@@!????##".charAt(random.nextInt(16));
            s.append(sign);
            if (sign == '+' || sign == '-') {
                s.append(random.nextInt(lines > 10 ? 9 : random.nextInt(8) == 0 ? 1100 : 20));
            } else if (sign == '@' || sign == '#') {
                s.append(random.nextInt(10) == 0 ? "00" : "").append(random.nextInt(random.nextInt(5) == 0 ? 18 : 3));
            }
            if (sign == '#') {
                s.append('=').append(random.nextInt(3) == 0 ? '-' : (char) ('a' + random.nextInt(5)));
            }
        }
        return spoilt(s, 120, 6);
    }

    String law() {
        StringBuilder s = new StringBuilder();
        int rules = random.nextInt(15) == 0 ? 15 + random.nextInt(4) : 1 + random.nextInt(6);
        for (int i = 0; i < rules; i++) {
            char letter = "vvvvaalx".charAt(random.nextInt(8));
            s.append(i == 0 ? "" : ";").append(letter);
            if (letter == 'v' || letter == 'a') {
                sum(s, rules > 8 ? 9 : 0);
            }
            s.append('(');
            any(s, rules > 8 ? 9 : 1);
            s.append(')');
        }
        return spoilt(s, 240, 6);
    }

    private void any(StringBuilder s, int depth) {
        for (int i = random.nextInt(depth < 4 ? 3 : 1); i >= 0; i--) {
            for (int j = random.nextInt(depth < 4 ? 2 : 1); j >= 0; j--) {
                test(s, depth);
                s.append(j > 0 ? "&" : "");
            }
            s.append(i > 0 ? "|" : "");
        }
    }

    private void test(StringBuilder s, int depth) {
        int kind = random.nextInt(depth < 9 ? 8 : 100);
        if (kind == 0) {
            s.append('!');
            test(s, depth + 1);
        } else if (kind == 1) {
            s.append('(');
            any(s, depth + 1);
            s.append(')');
        } else {
            sum(s, depth);
            s.append("<>=".charAt(random.nextInt(3)));
            sum(s, depth);
        }
    }

    private void sum(StringBuilder s, int depth) {
        factor(s, depth);
        for (int i = random.nextInt(depth < 9 ? 3 : 1); i > 0; i--) {
            s.append("+-*/%".charAt(random.nextInt(5)));
            factor(s, depth);
        }
    }

    private void factor(StringBuilder s, int depth) {
        int kind = random.nextInt(10);
        if (kind == 0 && depth < 8) {
            s.append('[');
            sum(s, depth + 1);
            s.append(']');
        } else if (kind < 5) {
            s.append(random.nextInt(random.nextInt(8) == 0 ? 100 : random.nextInt(30) == 0 ? 200000 : 9));
        } else {
            s.append("kpnufsgtw".charAt(random.nextInt(9)));
        }
    }

    /** One in so many is spoilt; none is longer than most but by a sign. */
    private String spoilt(StringBuilder s, int most, int one) {
        if (random.nextInt(one) == 0) {
            int i = random.nextInt(s.length());
            char sign = SIGNS.charAt(random.nextInt(SIGNS.length()));
            switch (random.nextInt(4)) {
                case 0 -> s.setCharAt(i, sign);
                case 1 -> s.insert(i, sign);
                case 2 -> s.deleteCharAt(i);
                default -> s.setLength(i);
            }
        }
        if (s.length() > most && random.nextInt(10) > 0) {
            s.setLength(most);
        }
        return s.length() == 0 ? "?" : s.toString();
    }
}
