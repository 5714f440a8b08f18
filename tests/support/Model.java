import java.util.ArrayList;
import java.util.Arrays;
import java.util.HashSet;
import java.util.List;
import java.util.Set;
import java.util.TreeSet;
import java.util.function.IntSupplier;

/**
 * The document once more, by other means: lists, trees and trying all there is, no matter how slow.
 * What it answers is compared with what the program answers.
 */
final class Model {
    private static final class Fault extends RuntimeException {
        private static final long serialVersionUID = 1L;
        final int answer;

        Fault(int number, int place) {
            super(null, null, false, false);
            answer = -1000 * number - place;
        }
    }

    private static final class Refused extends RuntimeException {
        private static final long serialVersionUID = 1L;

        Refused() {
            super(null, null, false, false);
        }
    }

    private static final class Roll {
        int[] row;
        int[] wear;
        int position;
        int turns;
        int gone;
        int pace;
        boolean pardoned;

        Roll(int[] row) {
            this.row = row;
            wear = new int[row.length];
        }

        Roll(Roll o) {
            row = o.row.clone();
            wear = o.wear.clone();
            position = o.position;
            turns = o.turns;
            gone = o.gone;
            pace = o.pace;
            pardoned = o.pardoned;
        }

        boolean running() {
            return turns > 0 && !pardoned;
        }

        int shows(int i) {
            return wear[i] == 99 ? 16 : row[i];
        }

        int gaps() {
            int g = 0;
            for (int i = 0; i < row.length; i++) {
                g += shows(i) == 16 ? 1 : 0;
            }
            return g;
        }

        int at(int i) {
            return row[((i % row.length) + row.length) % row.length];
        }

        String from(int start, int length, int step) {
            StringBuilder s = new StringBuilder();
            for (int i = 0; i < length; i++) {
                s.append((char) ('A' + at(start + step * i)));
            }
            return s.toString();
        }
    }

    private static final class State {
        Roll[] rolls = new Roll[8];
        int tick;
        int x = 1;

        State copy() {
            State s = new State();
            for (int k = 0; k < 8; k++) {
                s.rolls[k] = rolls[k] == null ? null : new Roll(rolls[k]);
            }
            s.tick = tick;
            s.x = x;
            return s;
        }
    }

    private record Rule(char letter, IntSupplier amount, IntSupplier test) {
    }

    private final List<Integer> tape = new ArrayList<>();
    private State now = new State();
    private State kept;
    private List<Rule> rules = new ArrayList<>();
    private int gone;

    // what a RULE looks at
    private Roll roll;
    private int k;
    private int tickSeen;
    private int draw;

    private String text;
    private int at;

    private Roll told(int k) {
        return k >= 0 && k < 8 ? now.rolls[k] : null;
    }

    private String take(int n) {
        StringBuilder s = new StringBuilder();
        for (int i = 0; i < n; i++) {
            s.append((char) (int) tape.get(i));
        }
        tape.clear();
        return s.toString();
    }

    private char sign() {
        return at < text.length() ? text.charAt(at) : 0xffff;
    }

    private boolean is(String signs) {
        return signs.indexOf(sign()) >= 0;
    }

    private char one(String signs) {
        if (!is(signs)) {
            throw new Fault(1, at);
        }
        return text.charAt(at++);
    }

    private int number(int digits) {
        int start = at;
        one("0123456789");
        while (is("0123456789")) {
            if (at - start == digits) {
                throw new Fault(2, at);
            }
            at++;
        }
        return Integer.parseInt(text.substring(start, at));
    }

    int feed(int... words) {
        if (tape.size() + 20 > 260) {
            return -1;
        }
        for (int w : words) {
            for (byte b : java.nio.ByteBuffer.allocate(4).putInt(w).array()) {
                tape.add(b & 255);
            }
        }
        return tape.size();
    }

    // THE LAW

    int law(int n) {
        if (n < 1 || n > 240 || n > tape.size()) {
            return -1;
        }
        text = take(n);
        at = 0;
        try {
            List<Rule> next = new ArrayList<>();
            do {
                if (!next.isEmpty()) {
                    at++;
                }
                if (next.size() == 16 && is("valx")) {
                    throw new Fault(4, at);
                }
                next.add(rule());
            } while (sign() == ';');
            if (at < text.length()) {
                throw new Fault(1, at);
            }
            rules = next;
            return rules.size();
        } catch (Fault f) {
            return f.answer;
        }
    }

    private Rule rule() {
        char letter = one("valx");
        IntSupplier amount = letter == 'v' || letter == 'a' ? sum(0) : null;
        one("(");
        IntSupplier test = any(1);
        one(")");
        return new Rule(letter, amount, test);
    }

    private IntSupplier any(int open) {
        List<IntSupplier> parts = new ArrayList<>();
        parts.add(all(open));
        while (sign() == '|') {
            at++;
            parts.add(all(open));
        }
        return () -> {
            for (IntSupplier p : parts) {
                if (p.getAsInt() == 1) {
                    return 1;
                }
            }
            return 0;
        };
    }

    private IntSupplier all(int open) {
        List<IntSupplier> tests = new ArrayList<>();
        tests.add(test(open));
        while (sign() == '&') {
            at++;
            tests.add(test(open));
        }
        return () -> {
            for (IntSupplier t : tests) {
                if (t.getAsInt() == 0) {
                    return 0;
                }
            }
            return 1;
        };
    }

    private void open(int open) {
        if (open == 6) {
            throw new Fault(5, at);
        }
        at++;
    }

    private IntSupplier test(int open) {
        if (sign() == '!') {
            open(open);
            IntSupplier t = test(open + 1);
            return () -> 1 - t.getAsInt();
        }
        if (sign() == '(') {
            open(open);
            IntSupplier t = any(open + 1);
            one(")");
            return t;
        }
        IntSupplier l = sum(open);
        char sign = one("<>=");
        IntSupplier r = sum(open);
        return () -> {
            int c = Integer.compare(l.getAsInt(), r.getAsInt());
            return sign == '<' && c < 0 || sign == '>' && c > 0 || sign == '=' && c == 0 ? 1 : 0;
        };
    }

    private IntSupplier sum(int open) {
        IntSupplier left = product(open);
        while (is("+-")) {
            IntSupplier l = left;
            boolean plus = text.charAt(at++) == '+';
            IntSupplier r = product(open);
            left = () -> (int) (plus ? (long) l.getAsInt() + r.getAsInt() : (long) l.getAsInt() - r.getAsInt());
        }
        return left;
    }

    private IntSupplier product(int open) {
        IntSupplier left = factor(open);
        while (is("*/%")) {
            IntSupplier l = left;
            char sign = text.charAt(at++);
            IntSupplier r = factor(open);
            left = () -> {
                long a = l.getAsInt();
                long b = r.getAsInt();
                if (sign == '*') {
                    return (int) (a * b);
                }
                if (b == 0) {
                    throw new Refused();
                }
                return (int) (sign == '/' ? a / b : a % b);
            };
        }
        return left;
    }

    private IntSupplier factor(int open) {
        if (sign() == '[') {
            open(open);
            IntSupplier s = sum(open + 1);
            one("]");
            return s;
        }
        if (is("0123456789")) {
            int v = number(5);
            return () -> v;
        }
        char letter = one("kpnufsgtw");
        return () -> look(letter);
    }

    private int look(char letter) {
        return switch (letter) {
            case 'k' -> k;
            case 'p' -> roll.shows(roll.position);
            case 'n' -> roll.row.length;
            case 'u' -> roll.turns;
            case 'f' -> roll.wear[roll.position];
            case 's' -> roll.pace;
            case 'g' -> roll.gaps();
            case 't' -> tickSeen % 100;
            default -> draw;
        };
    }

    private int asked(IntSupplier s) {
        try {
            return s.getAsInt();
        } catch (Refused r) {
            return 0;
        }
    }

    private int amount(char letter, int most) {
        for (Rule r : rules) {
            if (r.letter == letter && asked(r.test) == 1) {
                return Math.max(0, Math.min(most, asked(r.amount)));
            }
        }
        return 0;
    }

    private boolean holds(char letter) {
        return rules.stream().anyMatch(r -> r.letter == letter && asked(r.test) == 1);
    }

    /** False if no TICK can go by. */
    private boolean pass(State s) {
        if (s.tick == 9999) {
            return false;
        }
        for (int i = 0; i < 8; i++) {
            Roll r = s.rolls[i];
            if (r == null || !r.running()) {
                continue;
            }
            s.x = (int) ((25173L * s.x + 13849) % 65536);
            roll = r;
            k = i;
            tickSeen = s.tick;
            draw = s.x % 10;
            int v = amount('v', 15);
            boolean back = holds('l');
            int a = amount('a', 99);
            boolean pardon = holds('x');
            for (int j = 0; j < v; j++) {
                r.position += back ? -1 : 1;
                r.position = r.position < 0 ? r.row.length - 1 : r.position == r.row.length ? 0 : r.position;
                r.gone++;
                if (r.gone == r.row.length) {
                    r.gone = 0;
                    r.turns = r.turns == 0 ? 0 : r.turns - 1;
                }
            }
            r.pace = v;
            gone += v;
            r.wear[r.position] = Math.min(99, r.wear[r.position] + a);
            r.pardoned |= pardon;
        }
        s.tick++;
        return true;
    }

    private int bits(State s, java.util.function.Predicate<Roll> p) {
        int b = 0;
        for (int i = 0; i < 8; i++) {
            b |= s.rolls[i] != null && p.test(s.rolls[i]) ? 1 << i : 0;
        }
        return b;
    }

    // DRUMS and ORDERS

    int drum(int k, int n) {
        if (k < 0 || k > 7 || n < 1 || n > 60 || n > tape.size()) {
            return -1;
        }
        text = take(n);
        at = 0;
        try {
            List<Integer> row = new ArrayList<>();
            do {
                item(row, 0);
            } while (at < text.length());
            now.rolls[k] = new Roll(row.stream().mapToInt(i -> i).toArray());
            return row.size();
        } catch (Fault f) {
            return f.answer;
        }
    }

    private void item(List<Integer> row, int open) {
        int first = at;
        int times = is("23456789") ? text.charAt(at++) - '0' : 1;
        int start = row.size();
        if (sign() == '(') {
            if (open == 2) {
                throw new Fault(5, at);
            }
            at++;
            do {
                item(row, open + 1);
            } while (sign() != ')');
            at++;
        } else {
            row.add("abcdefghijklmnop-".indexOf(one("abcdefghijklmnop-")));
        }
        List<Integer> part = new ArrayList<>(row.subList(start, row.size()));
        for (int i = 1; i < times; i++) {
            row.addAll(part);
        }
        if (row.size() > 16) {
            throw new Fault(6, first);
        }
    }

    int orders(int n) {
        if (n < 1 || n > 120 || n > tape.size()) {
            return -1;
        }
        text = take(n);
        at = 0;
        State next = now.copy();
        int lines = 0;
        try {
            do {
                if (lines > 0) {
                    at++;
                }
                if (lines == 20 && is("01234567")) {
                    throw new Fault(4, at);
                }
                line(next);
                lines++;
            } while (sign() == ';');
            if (at < text.length()) {
                throw new Fault(1, at);
            }
            now = next;
            return lines;
        } catch (Fault f) {
            return f.answer;
        }
    }

    private void line(State s) {
        int digit = at;
        Roll r = s.rolls[one("01234567") - '0'];
        char sign = one("+-@!?#");
        if (r == null) {
            throw new Fault(7, digit);
        }
        if (sign == '!' || sign == '?') {
            r.pardoned = sign == '!';
            return;
        }
        int first = at;
        int v = number(3);
        if ((sign == '@' || sign == '#') && v >= r.row.length) {
            throw new Fault(3, first);
        }
        if (sign == '+') {
            r.turns = Math.min(999, r.turns + v);
        } else if (sign == '-') {
            r.turns = Math.max(0, r.turns - v);
        } else if (sign == '@') {
            r.position = v;
        } else {
            one("=");
            r.row[v] = "abcdefghijklmnop-".indexOf(one("abcdefghijklmnop-"));
            r.wear[v] = 0;
        }
    }

    // TICKS

    private boolean noTicks(int n, int least) {
        return n < least || n > 240;
    }

    int ticks(int n) {
        if (noTicks(n, 1)) {
            return -1;
        }
        for (int i = 0; i < n; i++) {
            pass(now);
        }
        return Integer.bitCount(bits(now, Roll::running));
    }

    int tried(int n, int what) {
        boolean ofAll = what >= 0 && what <= 2;
        boolean ofOne = what >= 10 && what <= 37 && told(what % 10) != null;
        if (noTicks(n, 1) || !ofAll && !ofOne) {
            return -1;
        }
        State s = now.copy();
        gone = 0;
        for (int i = 0; i < n; i++) {
            pass(s);
        }
        if (what == 0) {
            return bits(s, Roll::running);
        }
        if (what == 1) {
            return bits(s, r -> r.pardoned);
        }
        if (what == 2) {
            return gone;
        }
        Roll r = s.rolls[what % 10];
        return what / 10 == 1 ? r.position : what / 10 == 2 ? r.turns : r.gaps();
    }

    int drumIs(int k, int what) {
        Roll r = told(k);
        if (r == null) {
            return -1;
        }
        return switch (what) {
            case 0 -> r.row.length;
            case 1 -> r.position;
            case 2 -> r.turns;
            case 3 -> r.gone;
            case 4 -> r.pace;
            case 5 -> r.pardoned ? 1 : 0;
            case 6 -> r.shows(r.position);
            case 7 -> r.gaps();
            default -> -1;
        };
    }

    int frameIs(int k, int i, int what) {
        Roll r = told(k);
        if (r == null || i < 0 || i >= r.row.length || what != 0 && what != 1) {
            return -1;
        }
        return what == 0 ? r.row[i] : r.wear[i];
    }

    int seen(int k, int n) {
        if (told(k) == null || noTicks(n, 0)) {
            return -1;
        }
        State s = now.copy();
        for (int i = 0; i < n; i++) {
            pass(s);
        }
        return s.rolls[k].shows(s.rolls[k].position);
    }

    int done(int k, int n) {
        if (told(k) == null || noTicks(n, 1)) {
            return -1;
        }
        State s = now.copy();
        for (int i = 0; i <= n; i++) {
            if (!s.rolls[k].running()) {
                return i;
            }
            pass(s);
        }
        return -2;
    }

    int often(int k, int picture, int n) {
        if (told(k) == null || picture < 0 || picture > 16 || noTicks(n, 1)) {
            return -1;
        }
        State s = now.copy();
        int often = 0;
        for (int i = 0; i < n; i++) {
            if (pass(s) && s.rolls[k].shows(s.rolls[k].position) == picture) {
                often++;
            }
        }
        return often;
    }

    // what DRUMS are like

    int same(int k, int l, boolean turned) {
        Roll a = told(k);
        Roll b = told(l);
        if (a == null || b == null) {
            return -1;
        }
        int n = b.row.length;
        for (int s = 0; s < n; s++) {
            if (a.from(0, a.row.length, 1).equals(b.from(s, n, turned ? -1 : 1))) {
                return s;
            }
        }
        return -2;
    }

    int story(int k, int what) {
        Roll r = told(k);
        if (r == null || what < 0 || what > 6) {
            return -1000;
        }
        int n = r.row.length;
        String row = r.from(0, n, 1);
        switch (what) {
            case 0: {
                TreeSet<String> all = new TreeSet<>();
                for (int i = 0; i < n; i++) {
                    all.add(r.from(i, n, 1));
                }
                return (row + row).indexOf(all.first());
            }
            case 1:
                return (row + row).indexOf(row, 1);
            case 2: {
                int least = 99;
                for (int b = 0; b < n; b++) {
                    int unlike = 0;
                    for (int i = 0; i < n; i++) {
                        unlike += r.at(b + i) != r.at(b - 1 - i) ? 1 : 0;
                    }
                    least = Math.min(least, unlike / 2);
                }
                return least;
            }
            case 3: {
                int sum = 0;
                for (int i = 0; i < n; i++) {
                    if (r.at(i) < 16 && r.at(i + 1) < 16) {
                        int on = (r.at(i + 1) - r.at(i) + 16) % 16;
                        sum += on < 8 ? on : on > 8 ? on - 16 : 0;
                    }
                }
                return sum;
            }
            case 4:
            case 5: {
                int longest = 0;
                for (int i = 0; i < n; i++) {
                    for (int length = 1; length <= n; length++) {
                        String part = r.from(i, length, 1);
                        boolean fits = part.chars().allMatch(c -> (c == 'Q') == (what == 5));
                        longest = fits ? Math.max(longest, length) : longest;
                    }
                }
                return longest;
            }
            default:
                return (int) row.chars().filter(c -> c != 'Q').distinct().count();
        }
    }

    int painted(int k, int d) {
        Roll r = told(k);
        if (r == null || d < 1 || d > 16) {
            return -1;
        }
        int n = r.row.length;
        if (n % d != 0) {
            return -2;
        }
        int sum = 0;
        for (int i = 0; i < d; i++) {
            int least = 99;
            for (int p = 0; p <= 16; p++) {
                int unlike = 0;
                for (int j = i; j < n; j += d) {
                    unlike += r.row[j] != p ? 1 : 0;
                }
                least = Math.min(least, unlike);
            }
            sum += least;
        }
        return sum;
    }

    int edits(int k, int l) {
        Roll a = told(k);
        Roll b = told(l);
        if (a == null || b == null) {
            return -1;
        }
        int least = 99;
        for (int i = 0; i < a.row.length; i++) {
            for (int j = 0; j < b.row.length; j++) {
                least = Math.min(least, distance(a.from(i, a.row.length, 1), b.from(j, b.row.length, 1)));
            }
        }
        return least;
    }

    private static int distance(String a, String b) {
        int[][] d = new int[a.length() + 1][b.length() + 1];
        for (int i = a.length(); i >= 0; i--) {
            for (int j = b.length(); j >= 0; j--) {
                if (i == a.length() || j == b.length()) {
                    d[i][j] = a.length() - i + b.length() - j;
                } else if (a.charAt(i) == b.charAt(j)) {
                    d[i][j] = d[i + 1][j + 1];
                } else {
                    d[i][j] = 1 + Math.min(d[i + 1][j + 1], Math.min(d[i + 1][j], d[i][j + 1]));
                }
            }
        }
        return d[0][0];
    }

    int common(int k, int l) {
        Roll a = told(k);
        Roll b = told(l);
        if (a == null || b == null) {
            return -1;
        }
        for (int length = Math.min(a.row.length, b.row.length); length > 0; length--) {
            Set<String> both = wordsOf(a, length);
            both.retainAll(wordsOf(b, length));
            if (!both.isEmpty()) {
                return length;
            }
        }
        return 0;
    }

    private static Set<String> wordsOf(Roll r, int length) {
        Set<String> words = new HashSet<>();
        for (int i = 0; i < r.row.length; i++) {
            words.add(r.from(i, length, 1));
        }
        return words;
    }

    int twins(int k, int l, int what) {
        Roll a = told(k);
        Roll b = told(l);
        if (a == null || b == null || what != 0 && what != 1) {
            return -1;
        }
        int n = a.row.length;
        if (b.row.length != n) {
            return -2;
        }
        int[] alike = new int[n];
        for (int s = 0; s < n; s++) {
            for (int i = 0; i < n; i++) {
                alike[s] += a.at(i) == b.at(s + i) ? 1 : 0;
            }
        }
        int most = Arrays.stream(alike).max().getAsInt();
        for (int s = 0; s < n; s++) {
            if (alike[s] == most) {
                return what == 0 ? s : most;
            }
        }
        return -99;
    }

    int both(int k, int l) {
        Roll a = told(k);
        Roll b = told(l);
        if (a == null || b == null || tape.size() < 4) {
            return -1;
        }
        String s = take(4);
        if (s.charAt(0) > 15 || s.charAt(1) > 15 || s.charAt(2) > 16 || s.charAt(3) > 16) {
            return -3;
        }
        int i = a.position;
        int j = b.position;
        for (int t = 0; t < 1000; t++) {
            if (a.row[i] == s.charAt(2) && b.row[j] == s.charAt(3)) {
                return t;
            }
            i = (i + s.charAt(0)) % a.row.length;
            j = (j + s.charAt(1)) % b.row.length;
        }
        return -2;
    }

    int paced(int k, int n, int what) {
        Roll r = told(k);
        if (r == null || n < 1 || n > 16 || what != 0 && what != 1 || n > tape.size()) {
            return -1;
        }
        String s = take(n);
        StringBuilder word = new StringBuilder();
        for (char c : s.toCharArray()) {
            if (c > 16) {
                return -3;
            }
            word.append((char) ('A' + c));
        }
        for (int pace = 0; pace < r.row.length; pace++) {
            for (int from = 0; from < r.row.length; from++) {
                if (r.from(from, n, pace).contentEquals(word)) {
                    return what == 0 ? pace : from;
                }
            }
        }
        return -2;
    }

    int words(int k, int length) {
        return told(k) == null || length < 1 || length > 16 ? -1 : wordsOf(told(k), length).size();
    }

    int crowd(int k, int eyes, int what) {
        Roll r = told(k);
        if (r == null || eyes < 0 || eyes > 65535 || what < 0 || what > 2) {
            return -1;
        }
        int most = -1;
        int where = 0;
        for (int p = 0; p < r.row.length; p++) {
            Set<Integer> sees = new HashSet<>();
            for (int i = 0; i < r.row.length; i++) {
                if ((eyes & 1 << i) != 0 && r.at(p + i) != 16) {
                    sees.add(r.at(p + i));
                }
            }
            if (what == 0 && p == r.position) {
                return sees.size();
            }
            if (sees.size() > most) {
                most = sees.size();
                where = p;
            }
        }
        return what == 1 ? where : most;
    }

    int linked(int what) {
        int[] group = new int[8];
        for (int i = 0; i < 8; i++) {
            group[i] = i;
        }
        for (int i = 0; i < 8; i++) {
            for (int j = 0; j < 8; j++) {
                if (now.rolls[i] != null && now.rolls[j] != null && share(now.rolls[i], now.rolls[j])) {
                    int old = group[i];
                    int fresh = group[j];
                    for (int m = 0; m < 8; m++) {
                        group[m] = group[m] == old ? fresh : group[m];
                    }
                }
            }
        }
        Set<Integer> groups = new HashSet<>();
        int bits = 0;
        for (int i = 0; i < 8; i++) {
            if (now.rolls[i] != null) {
                groups.add(group[i]);
                bits |= told(what) != null && group[i] == group[what] ? 1 << i : 0;
            }
        }
        return what == 100 ? groups.size() : told(what) == null ? -1 : bits;
    }

    private static boolean share(Roll a, Roll b) {
        return Arrays.stream(a.row).anyMatch(p -> p != 16 && Arrays.stream(b.row).anyMatch(q -> q == p));
    }

    int unseen(int k) {
        Roll r = told(k);
        if (r == null) {
            return -1;
        }
        int[] own = Arrays.stream(r.row).filter(p -> p != 16).distinct().toArray();
        Set<String> all = new HashSet<>(Set.of(""));
        for (int length = 1; length <= 16 && own.length > 0; length++) {
            Set<String> longer = new HashSet<>();
            for (String s : all) {
                for (int p : own) {
                    longer.add(s + (char) ('A' + p));
                }
            }
            if (!wordsOf(r, length).containsAll(longer)) {
                return length;
            }
            all = longer;
        }
        return -2;
    }

    long necklaces(int n, int k, boolean any) {
        if (n < 1 || n > 12 || k < 1 || k > 16) {
            return -1;
        }
        if (Math.pow(k, n) > 5000) {
            throw new IllegalStateException("too many to be tried");
        }
        Set<String> least = new HashSet<>();
        for (int code = 0; code < Math.round(Math.pow(k, n)); code++) {
            int[] row = new int[n];
            for (int i = 0, c = code; i < n; i++, c /= k) {
                row[i] = c % k;
            }
            Roll r = new Roll(row);
            TreeSet<String> alike = new TreeSet<>();
            for (int i = 0; i < n; i++) {
                alike.add(r.from(i, n, 1));
                alike.add(r.from(i, n, any ? -1 : 1));
            }
            least.add(alike.first());
        }
        return least.size();
    }

    int leaving(int n) {
        if (n < 1 || n > 10 || 2 * n > tape.size()) {
            return -1;
        }
        String s = take(2 * n);
        for (int i = 0; i < n; i++) {
            if (s.charAt(2 * i + 1) > 50) {
                return -2;
            }
        }
        int[] who = new int[400];
        Arrays.fill(who, -1);
        int gone = 0;
        for (int i = 0; i < n; i++) {
            gone += finds(s, i, who, new boolean[400]) ? 1 : 0;
        }
        return gone;
    }

    private static boolean finds(String s, int i, int[] who, boolean[] asked) {
        int far = s.charAt(2 * i + 1);
        for (int t = Math.max(0, s.charAt(2 * i) - far); t <= s.charAt(2 * i) + far; t++) {
            if (!asked[t]) {
                asked[t] = true;
                if (who[t] < 0 || finds(s, who[t], who, asked)) {
                    who[t] = i;
                    return true;
                }
            }
        }
        return false;
    }

    int marked(int k, int m, int what) {
        Roll r = told(k);
        if (r == null || m < 1 || m > 16 || m > r.row.length || what != 0 && what != 1) {
            return -1;
        }
        int n = r.row.length;
        int best = (1 << n) - 1;
        for (int bits = (1 << n) - 1; bits > 0; bits--) {
            boolean fits = Integer.bitCount(bits) <= Integer.bitCount(best);
            for (int i = 0; i < n && fits; i++) {
                int round = bits | bits << n;
                fits = (round >> i & (1 << m) - 1) != 0;
            }
            best = fits ? bits : best;
        }
        return what == 0 ? Integer.bitCount(best) : best;
    }

    // the rest

    boolean seed(int x) {
        if (x < 0 || x > 65535) {
            return false;
        }
        now.x = x;
        return true;
    }

    int keep() {
        kept = now.copy();
        return now.tick;
    }

    boolean undo() {
        if (kept == null) {
            return false;
        }
        now = kept.copy();
        return true;
    }

    int check(int n) {
        if (n < 0 || n > 8 || n > tape.size()) {
            return -2;
        }
        String s = take(n);
        for (int i = 0; i < n; i++) {
            if (s.charAt(i) != (now.rolls[i] == null ? 255 : now.rolls[i].position)) {
                return i;
            }
        }
        return -1;
    }

    int count(int what) {
        return switch (what) {
            case 0 -> now.tick;
            case 1 -> bits(now, r -> true);
            case 2 -> bits(now, Roll::running);
            case 3 -> bits(now, r -> r.pardoned);
            case 4 -> Arrays.stream(now.rolls).mapToInt(r -> r == null ? 0 : r.turns).sum();
            case 5 -> rules.size();
            case 6 -> tape.size();
            case 7 -> now.x;
            default -> -1;
        };
    }
}
