/**
 * Prisons that are drums with slits: told, ordered about, turned tick by tick by a law, and compared.
 *
 * All rows are made with the object and used again, so that no call makes anything.
 */
public final class RoundSentences {
    public static final int NONE = -1;

    private static final int NOT_SO = -2;
    private static final int WRONG_BYTE = -3;
    private static final int NO_STORY = -1000;

    private static final int DRUMS = 8;
    private static final int MOST_FRAMES = 16;
    private static final int GAP = 16;
    private static final int FADED = 99;
    private static final int MOST_TURNS = 999;
    private static final int MOST_PACE = 15;
    private static final int LAST_TICK = 9999;
    private static final int MOST_TICKS = 240;

    private static final int TAPE_ROOM = 260;
    private static final int FED_BYTES = 20;
    private static final int DRUM_TEXT = 60;
    private static final int ORDERS_TEXT = 120;
    private static final int LAW_TEXT = 240;

    private static final int NOT_TOLD_POSITION = 255;
    private static final int MOST_EYES = 65535;
    private static final int ALL_GROUPS = 100;
    private static final int MOST_SEED = 65535;
    private static final int MOST_BEADS = 12;

    private final Tape tape;
    private final Land land;
    private final Land kept;
    private final Land trial;
    private final LawReader lawReader;
    private final DrumReader drumReader;
    private final OrdersReader ordersReader;
    private final Judge judge;
    private final Riddles riddles;
    private boolean hasKept;

    public RoundSentences() {
        tape = new Tape();
        land = new Land();
        kept = new Land();
        trial = new Land();
        lawReader = new LawReader(tape, new Law());
        drumReader = new DrumReader(tape);
        ordersReader = new OrdersReader(tape);
        judge = new Judge(new Law());
        riddles = new Riddles();
        hasKept = false;
    }

    public int feed(int a, int b, int c, int d, int e) {
        if (tape.size() + FED_BYTES > TAPE_ROOM) {
            return NONE;
        }
        tape.addWord(a);
        tape.addWord(b);
        tape.addWord(c);
        tape.addWord(d);
        tape.addWord(e);
        return tape.size();
    }

    public int law(int n) {
        if (n < 1 || n > LAW_TEXT || n > tape.size()) {
            return NONE;
        }
        int answer = lawReader.read(n);
        tape.clear();
        if (answer > 0) {
            lawReader.writeNextOn(judge.follow(lawReader.draft()));
        }
        return answer;
    }

    public int drum(int k, int n) {
        if (k < 0 || k >= DRUMS || n < 1 || n > DRUM_TEXT || n > tape.size()) {
            return NONE;
        }
        int answer = drumReader.read(n);
        tape.clear();
        if (answer > 0) {
            land.tell(k, drumReader.frames(), answer);
        }
        return answer;
    }

    public int orders(int n) {
        if (n < 1 || n > ORDERS_TEXT || n > tape.size()) {
            return NONE;
        }
        int answer = ordersReader.read(n, land);
        tape.clear();
        if (answer > 0) {
            ordersReader.carryOut(land);
        }
        return answer;
    }

    public int ticks(int n) {
        if (n < 1 || n > MOST_TICKS) {
            return NONE;
        }
        land.passTicks(n, judge);
        return Integer.bitCount(land.runningBits());
    }

    public int tried(int n, int what) {
        if (n < 1 || n > MOST_TICKS || what < 0 || what >= 40 || what > 2 && what < 10) {
            return NONE;
        }
        if (what >= 10 && land.toldDrum(what % 10) == null) {
            return NONE;
        }
        trial.copyFrom(land);
        int gone = trial.passTicks(n, judge);
        if (what == 2) {
            return gone;
        }
        if (what < 10) {
            return what == 0 ? trial.runningBits() : trial.pardonedBits();
        }
        Drum drum = trial.toldDrum(what % 10);
        if (drum == null) {
            return NONE;
        }
        if (what < 20) {
            return drum.position();
        }
        return what < 30 ? drum.turns() : drum.gapsShown();
    }

    public int drumIs(int k, int what) {
        Drum drum = land.toldDrum(k);
        if (drum == null) {
            return NONE;
        }
        switch (what) {
            case 0:
                return drum.frames();
            case 1:
                return drum.position();
            case 2:
                return drum.turns();
            case 3:
                return drum.wayGone();
            case 4:
                return drum.pace();
            case 5:
                return drum.isPardoned() ? 1 : 0;
            case 6:
                return drum.shownAtSlit();
            case 7:
                return drum.gapsShown();
            default:
                return NONE;
        }
    }

    public int frameIs(int k, int i, int what) {
        Drum drum = land.toldDrum(k);
        if (drum == null || i < 0 || i >= drum.frames() || what < 0 || what > 1) {
            return NONE;
        }
        return what == 0 ? drum.picture(i) : drum.wear(i);
    }

    public int seen(int k, int n) {
        if (land.toldDrum(k) == null || n < 0 || n > MOST_TICKS) {
            return NONE;
        }
        trial.copyFrom(land);
        trial.passTicks(n, judge);
        Drum drum = trial.toldDrum(k);
        return drum == null ? NONE : drum.shownAtSlit();
    }

    public int done(int k, int n) {
        Drum now = land.toldDrum(k);
        if (now == null || n < 1 || n > MOST_TICKS) {
            return NONE;
        }
        if (!now.isRunning()) {
            return 0;
        }
        trial.copyFrom(land);
        Drum drum = trial.toldDrum(k);
        if (drum == null) {
            return NONE;
        }
        for (int i = 1; i <= n; i++) {
            trial.passTicks(1, judge);
            if (!drum.isRunning()) {
                return i;
            }
        }
        return NOT_SO;
    }

    public int often(int k, int picture, int n) {
        if (land.toldDrum(k) == null || picture < 0 || picture > GAP || n < 1 || n > MOST_TICKS) {
            return NONE;
        }
        trial.copyFrom(land);
        Drum drum = trial.toldDrum(k);
        if (drum == null) {
            return NONE;
        }
        int times = 0;
        for (int i = 0; i < n && trial.tick() < LAST_TICK; i++) {
            trial.passTicks(1, judge);
            if (drum.shownAtSlit() == picture) {
                times++;
            }
        }
        return times;
    }

    public int same(int k, int l, boolean turned) {
        Drum first = land.toldDrum(k);
        Drum second = land.toldDrum(l);
        if (first == null || second == null) {
            return NONE;
        }
        return Rows.turnToMatch(first, second, turned ? -1 : 1);
    }

    public int story(int k, int what) {
        Drum drum = land.toldDrum(k);
        if (drum == null) {
            return NO_STORY;
        }
        switch (what) {
            case 0:
                return Rows.leastBeginning(drum);
            case 1:
                return Rows.period(drum);
            case 2:
                return Rows.mirror(drum);
            case 3:
                return Rows.forward(drum);
            case 4:
                return Rows.longestRun(drum, false);
            case 5:
                return Rows.longestRun(drum, true);
            case 6:
                return Integer.bitCount(Rows.pictureBits(drum));
            default:
                return NO_STORY;
        }
    }

    public int painted(int k, int d) {
        Drum drum = land.toldDrum(k);
        if (drum == null || d < 1 || d > MOST_FRAMES) {
            return NONE;
        }
        if (drum.frames() % d != 0) {
            return NOT_SO;
        }
        return riddles.fewestPainted(drum, d);
    }

    public int edits(int k, int l) {
        Drum first = land.toldDrum(k);
        Drum second = land.toldDrum(l);
        if (first == null || second == null) {
            return NONE;
        }
        return riddles.fewestEdits(first, second);
    }

    public int common(int k, int l) {
        Drum first = land.toldDrum(k);
        Drum second = land.toldDrum(l);
        if (first == null || second == null) {
            return NONE;
        }
        return Rows.longestCommon(first, second);
    }

    public int twins(int k, int l, int what) {
        Drum first = land.toldDrum(k);
        Drum second = land.toldDrum(l);
        if (first == null || second == null || what < 0 || what > 1) {
            return NONE;
        }
        if (first.frames() != second.frames()) {
            return NOT_SO;
        }
        int turn = Rows.likestTurn(first, second);
        return what == 0 ? turn : Rows.alike(first, second, turn, 1);
    }

    public int both(int k, int l) {
        Drum first = land.toldDrum(k);
        Drum second = land.toldDrum(l);
        if (first == null || second == null || tape.size() < 4) {
            return NONE;
        }
        int firstPace = tape.at(0);
        int secondPace = tape.at(1);
        int firstPicture = tape.at(2);
        int secondPicture = tape.at(3);
        tape.clear();
        if (firstPace > MOST_PACE || secondPace > MOST_PACE || firstPicture > GAP || secondPicture > GAP) {
            return WRONG_BYTE;
        }
        // Where both stand comes again after so many TICKS at the latest.
        int rounds = first.frames() * second.frames();
        for (int t = 0; t < rounds; t++) {
            if (first.picture(first.position() + t * firstPace) == firstPicture
                    && second.picture(second.position() + t * secondPace) == secondPicture) {
                return t;
            }
        }
        return NOT_SO;
    }

    public int paced(int k, int n, int what) {
        Drum drum = land.toldDrum(k);
        if (drum == null || n < 1 || n > MOST_FRAMES || what < 0 || what > 1 || n > tape.size()) {
            return NONE;
        }
        int answer = tape.isWithin(n, GAP) ? riddles.paceOfWord(drum, tape, n, what) : WRONG_BYTE;
        tape.clear();
        return answer;
    }

    public int words(int k, int length) {
        Drum drum = land.toldDrum(k);
        if (drum == null || length < 1 || length > MOST_FRAMES) {
            return NONE;
        }
        return Rows.unlikeWords(drum, length, true);
    }

    public int crowd(int k, int eyes, int what) {
        Drum drum = land.toldDrum(k);
        if (drum == null || eyes < 0 || eyes > MOST_EYES || what < 0 || what > 2) {
            return NONE;
        }
        if (what == 0) {
            return Rows.seenByEyes(drum, eyes, drum.position());
        }
        int best = Rows.bestPosition(drum, eyes);
        return what == 1 ? best : Rows.seenByEyes(drum, eyes, best);
    }

    public int linked(int what) {
        if (what == ALL_GROUPS) {
            return land.groups();
        }
        return land.toldDrum(what) == null ? NONE : land.groupOf(what);
    }

    public int unseen(int k) {
        Drum drum = land.toldDrum(k);
        if (drum == null) {
            return NONE;
        }
        return Rows.shortestUnseen(drum);
    }

    public long necklaces(int n, int k, boolean any) {
        if (n < 1 || n > MOST_BEADS || k < 1 || k > MOST_FRAMES) {
            return NONE;
        }
        return any ? Riddles.eitherWay(n, k) : Riddles.oneWay(n, k);
    }

    public int leaving(int n) {
        if (n < 1 || n > Riddles.MOST_PRISONERS || 2 * n > tape.size()) {
            return NONE;
        }
        int answer = riddles.takePrisoners(tape, n) ? riddles.mostLeaving(n) : NOT_SO;
        tape.clear();
        return answer;
    }

    public int marked(int k, int m, int what) {
        Drum drum = land.toldDrum(k);
        if (drum == null || m < 1 || m > drum.frames() || what < 0 || what > 1) {
            return NONE;
        }
        int bits = Riddles.leastMarks(drum.frames(), m);
        return what == 0 ? Integer.bitCount(bits) : bits;
    }

    public boolean seed(int x) {
        if (x < 0 || x > MOST_SEED) {
            return false;
        }
        land.sow(x);
        return true;
    }

    public int keep() {
        kept.copyFrom(land);
        hasKept = true;
        return land.tick();
    }

    public boolean undo() {
        if (!hasKept) {
            return false;
        }
        land.copyFrom(kept);
        return true;
    }

    public int check(int n) {
        if (n < 0 || n > DRUMS || n > tape.size()) {
            return NOT_SO;
        }
        int answer = NONE;
        for (int k = 0; k < n && answer == NONE; k++) {
            Drum drum = land.toldDrum(k);
            int due = drum == null ? NOT_TOLD_POSITION : drum.position();
            if (tape.at(k) != due) {
                answer = k;
            }
        }
        tape.clear();
        return answer;
    }

    public int count(int what) {
        switch (what) {
            case 0:
                return land.tick();
            case 1:
                return land.toldBits();
            case 2:
                return land.runningBits();
            case 3:
                return land.pardonedBits();
            case 4:
                return land.turnsOfAll();
            case 5:
                return judge.rules();
            case 6:
                return tape.size();
            case 7:
                return land.drawn();
            default:
                return NONE;
        }
    }

    /** The bytes that were fed and not yet used. */
    static final class Tape {
        private final int[] bytes;
        private int size;

        Tape() {
            bytes = new int[TAPE_ROOM];
            size = 0;
        }

        int size() {
            return size;
        }

        int at(int i) {
            return i >= 0 && i < size && i < bytes.length ? bytes[i] : 0;
        }

        void addWord(int word) {
            for (int shift = 24; shift >= 0; shift -= 8) {
                if (size >= 0 && size < bytes.length) {
                    bytes[size] = word >>> shift & 255;
                    size++;
                }
            }
        }

        boolean isWithin(int n, int most) {
            for (int i = 0; i < n && i < size; i++) {
                if (at(i) > most) {
                    return false;
                }
            }
            return true;
        }

        void clear() {
            size = 0;
        }
    }

    /** One DRUM; it is told when it has FRAMES. */
    static final class Drum {
        private final int[] pictures;
        private final int[] wears;
        private int frames;
        private int position;
        private int turns;
        private int wayGone;
        private int pace;
        private boolean pardoned;

        Drum() {
            pictures = new int[MOST_FRAMES];
            wears = new int[MOST_FRAMES];
            frames = 0;
        }

        int frames() {
            return frames;
        }

        int position() {
            return position;
        }

        int turns() {
            return turns;
        }

        int wayGone() {
            return wayGone;
        }

        int pace() {
            return pace;
        }

        boolean isPardoned() {
            return pardoned;
        }

        boolean isTold() {
            return frames > 0;
        }

        boolean isRunning() {
            return frames > 0 && turns > 0 && !pardoned;
        }

        /** FRAME i round the DRUM as it was told or painted over, WEAR aside. */
        int picture(int i) {
            int at = frames > 0 ? Math.floorMod(i, frames) : 0;
            return at < pictures.length ? pictures[at] : GAP;
        }

        int wear(int i) {
            return i >= 0 && i < frames && i < wears.length ? wears[i] : 0;
        }

        int shownAtSlit() {
            if (position < 0 || position >= pictures.length || position >= wears.length) {
                return GAP;
            }
            return wears[position] >= FADED ? GAP : pictures[position];
        }

        int gapsShown() {
            int gaps = 0;
            for (int i = 0; i < frames && i < pictures.length && i < wears.length; i++) {
                if (pictures[i] == GAP || wears[i] >= FADED) {
                    gaps++;
                }
            }
            return gaps;
        }

        void tell(int[] row, int n) {
            frames = 0;
            for (int i = 0; i < n && i < pictures.length && i < wears.length && i < row.length; i++) {
                pictures[i] = row[i];
                wears[i] = 0;
                frames++;
            }
            position = 0;
            turns = 0;
            wayGone = 0;
            pace = 0;
            pardoned = false;
        }

        void addTurns(int more) {
            turns = Math.max(0, Math.min(MOST_TURNS, turns + more));
        }

        void turnTo(int i) {
            if (i >= 0 && i < frames) {
                position = i;
            }
        }

        void setPardoned(boolean is) {
            pardoned = is;
        }

        void paint(int i, int picture) {
            if (i >= 0 && i < frames && i < pictures.length && i < wears.length) {
                pictures[i] = picture;
                wears[i] = 0;
            }
        }

        void go(int steps, boolean back) {
            if (frames <= 0) {
                return;
            }
            position = Math.floorMod(back ? position - steps : position + steps, frames);
            pace = steps;
            wayGone += steps;
            for (int i = 0; i < MOST_PACE + MOST_FRAMES && wayGone >= frames; i++) {
                wayGone -= frames;
                turns = Math.max(0, turns - 1);
            }
        }

        void wearAtSlit(int more) {
            if (position >= 0 && position < wears.length) {
                wears[position] = Math.min(FADED, wears[position] + more);
            }
        }

        void copyFrom(Drum other) {
            frames = other.frames;
            position = other.position;
            turns = other.turns;
            wayGone = other.wayGone;
            pace = other.pace;
            pardoned = other.pardoned;
            for (int i = 0; i < frames && i < pictures.length && i < wears.length; i++) {
                pictures[i] = other.pictures[i];
                wears[i] = other.wears[i];
            }
        }
    }

    /** What is KEPT and UNDONE as one: the DRUMS, THE TICK and X. */
    static final class Land {
        private static final int FIRST_SEED = 1;

        private final Drum[] drums;
        private int tick;
        private int x;

        Land() {
            drums = new Drum[DRUMS];
            for (int k = 0; k < drums.length; k++) {
                drums[k] = new Drum();
            }
            tick = 0;
            x = FIRST_SEED;
        }

        int tick() {
            return tick;
        }

        int drawn() {
            return x;
        }

        void sow(int seed) {
            x = seed;
        }

        /** DRUM k, or null if there is no such one or it is not told. */
        Drum toldDrum(int k) {
            return k >= 0 && k < drums.length && drums[k].isTold() ? drums[k] : null;
        }

        void tell(int k, int[] row, int n) {
            if (k >= 0 && k < drums.length) {
                drums[k].tell(row, n);
            }
        }

        int toldBits() {
            int bits = 0;
            for (int k = 0; k < drums.length; k++) {
                bits |= drums[k].isTold() ? 1 << k : 0;
            }
            return bits;
        }

        int runningBits() {
            int bits = 0;
            for (int k = 0; k < drums.length; k++) {
                bits |= drums[k].isRunning() ? 1 << k : 0;
            }
            return bits;
        }

        int pardonedBits() {
            int bits = 0;
            for (int k = 0; k < drums.length; k++) {
                bits |= drums[k].isTold() && drums[k].isPardoned() ? 1 << k : 0;
            }
            return bits;
        }

        int turnsOfAll() {
            int sum = 0;
            for (int k = 0; k < drums.length; k++) {
                sum += drums[k].isTold() ? drums[k].turns() : 0;
            }
            return sum;
        }

        /** As many of n TICKS as can go by: how many FRAMES all DRUMS went in them. */
        int passTicks(int n, Judge judge) {
            int gone = 0;
            for (int i = 0; i < n && tick < LAST_TICK; i++) {
                for (int k = 0; k < drums.length; k++) {
                    if (drums[k].isRunning()) {
                        gone += turnDrum(k, drums[k], judge);
                    }
                }
                tick++;
            }
            return gone;
        }

        private int turnDrum(int k, Drum drum, Judge judge) {
            x = (25173 * x + 13849) % 65536;
            judge.lookAt(k, drum, tick, x % 10);
            // All is asked ahead, since going and wearing change what THE LAW looks at.
            int steps = judge.amount('v', MOST_PACE);
            boolean back = judge.anyHolds('l');
            int wear = judge.amount('a', FADED);
            boolean pardon = judge.anyHolds('x');
            drum.go(steps, back);
            drum.wearAtSlit(wear);
            if (pardon) {
                drum.setPardoned(true);
            }
            return steps;
        }

        /** The told DRUMS that are LINKED with k, directly or by others, and k itself. */
        int groupOf(int k) {
            Drum begin = toldDrum(k);
            if (begin == null) {
                return 0;
            }
            int group = 1 << k;
            int shared = Rows.pictureBits(begin);
            // A round that adds none is the last that matters; each other one adds a DRUM.
            for (int round = 0; round < drums.length; round++) {
                for (int j = 0; j < drums.length; j++) {
                    int own = drums[j].isTold() ? Rows.pictureBits(drums[j]) : 0;
                    if ((own & shared) != 0) {
                        group |= 1 << j;
                        shared |= own;
                    }
                }
            }
            return group;
        }

        int groups() {
            int groups = 0;
            int grouped = 0;
            for (int k = 0; k < drums.length; k++) {
                if (drums[k].isTold() && (grouped >> k & 1) == 0) {
                    grouped |= groupOf(k);
                    groups++;
                }
            }
            return groups;
        }

        void copyFrom(Land other) {
            for (int k = 0; k < drums.length && k < other.drums.length; k++) {
                drums[k].copyFrom(other.drums[k]);
            }
            tick = other.tick;
            x = other.x;
        }
    }

    /** THE LAW as steps of a machine with a stack; the E and the C of each RULE end with a STOP. */
    static final class Law {
        private static final int MOST_RULES = 16;
        // Every step comes of a byte of its own in the TEXT, so that this is more than enough.
        private static final int ROOM = 256;

        private static final int STOP = 0;
        private static final int NUMBER = 1;
        private static final int LETTER = 2;
        private static final int NOT = 3;
        private static final int JUMP_IF_HELD = 4;
        private static final int JUMP_IF_NOT = 5;

        private final int[] letters;
        private final int[] amountStarts;
        private final int[] testStarts;
        private final int[] kinds;
        private final int[] values;
        private int rules;
        private int steps;

        Law() {
            letters = new int[MOST_RULES];
            amountStarts = new int[MOST_RULES];
            testStarts = new int[MOST_RULES];
            kinds = new int[ROOM];
            values = new int[ROOM];
            rules = 0;
            steps = 0;
        }

        void clear() {
            rules = 0;
            steps = 0;
        }

        int rules() {
            return rules;
        }

        int steps() {
            return steps;
        }

        void addRule(int letter, int amountStart, int testStart) {
            if (rules >= 0 && rules < letters.length && rules < amountStarts.length && rules < testStarts.length) {
                letters[rules] = letter;
                amountStarts[rules] = amountStart;
                testStarts[rules] = testStart;
                rules++;
            }
        }

        /** Where the step stands that was added; an operator's kind is its sign. */
        int addStep(int kind, int value) {
            int at = steps;
            if (at >= 0 && at < kinds.length && at < values.length) {
                kinds[at] = kind;
                values[at] = value;
                steps++;
            }
            return at;
        }

        void aimHere(int jump) {
            if (jump >= 0 && jump < values.length) {
                values[jump] = steps;
            }
        }

        int letter(int rule) {
            return rule >= 0 && rule < letters.length ? letters[rule] : 0;
        }

        int amountStart(int rule) {
            return rule >= 0 && rule < amountStarts.length ? amountStarts[rule] : 0;
        }

        int testStart(int rule) {
            return rule >= 0 && rule < testStarts.length ? testStarts[rule] : 0;
        }

        int kind(int at) {
            return at >= 0 && at < steps && at < kinds.length ? kinds[at] : STOP;
        }

        int value(int at) {
            return at >= 0 && at < steps && at < values.length ? values[at] : 0;
        }
    }

    /** Asks THE LAW about one DRUM at one TICK. */
    static final class Judge {
        // Six open brackets hold back three values each and a test one more: this is above that.
        private static final int DEPTH = 64;

        private final int[] stack;
        private int height;
        private boolean refused;
        private Law rulebook;
        private Drum drum;
        private int number;
        private int tick;
        private int draw;

        Judge(Law first) {
            stack = new int[DEPTH];
            rulebook = first;
            drum = null;
        }

        /** The law that was followed before. */
        Law follow(Law next) {
            Law before = rulebook;
            rulebook = next;
            return before;
        }

        int rules() {
            return rulebook.rules();
        }

        void lookAt(int k, Drum which, int now, int drawn) {
            number = k;
            drum = which;
            tick = now;
            draw = drawn;
        }

        int amount(int letter, int most) {
            for (int i = 0; i < rulebook.rules(); i++) {
                if (rulebook.letter(i) == letter && run(rulebook.testStart(i)) != 0) {
                    return Math.max(0, Math.min(most, run(rulebook.amountStart(i))));
                }
            }
            return 0;
        }

        boolean anyHolds(int letter) {
            for (int i = 0; i < rulebook.rules(); i++) {
                if (rulebook.letter(i) == letter && run(rulebook.testStart(i)) != 0) {
                    return true;
                }
            }
            return false;
        }

        /** What the steps from there to their STOP come to; 0 (so a C does not hold) if REFUSED. */
        private int run(int start) {
            height = 0;
            refused = false;
            int at = start;
            // Jumps lead forward only, so no step is taken twice.
            for (int i = 0; i < rulebook.steps() && rulebook.kind(at) != Law.STOP; i++) {
                at = step(at, rulebook.kind(at), rulebook.value(at));
                if (refused) {
                    return 0;
                }
            }
            return pop();
        }

        /** Where it goes on. */
        private int step(int at, int kind, int value) {
            switch (kind) {
                case Law.NUMBER:
                    push(value);
                    break;
                case Law.LETTER:
                    push(look(value));
                    break;
                case Law.NOT:
                    push(pop() == 0 ? 1 : 0);
                    break;
                case Law.JUMP_IF_HELD:
                case Law.JUMP_IF_NOT:
                    // What has decided the matter stays as its answer; else the next one decides.
                    if (top() != 0 == (kind == Law.JUMP_IF_HELD)) {
                        return value;
                    }
                    pop();
                    break;
                default:
                    int right = pop();
                    push(reckon(kind, pop(), right));
                    break;
            }
            return at + 1;
        }

        private int reckon(int sign, int left, int right) {
            switch (sign) {
                case '+':
                    return left + right;
                case '-':
                    return left - right;
                case '*':
                    return left * right;
                case '/':
                case '%':
                    if (right == 0) {
                        refused = true;
                        return 0;
                    }
                    return sign == '/' ? left / right : left % right;
                case '<':
                    return left < right ? 1 : 0;
                case '>':
                    return left > right ? 1 : 0;
                default:
                    return left == right ? 1 : 0;
            }
        }

        private int look(int letter) {
            if (drum == null) {
                return 0;
            }
            switch (letter) {
                case 'k':
                    return number;
                case 'p':
                    return drum.shownAtSlit();
                case 'n':
                    return drum.frames();
                case 'u':
                    return drum.turns();
                case 'f':
                    return drum.wear(drum.position());
                case 's':
                    return drum.pace();
                case 'g':
                    return drum.gapsShown();
                case 't':
                    return tick % 100;
                default:
                    return draw;
            }
        }

        private void push(int value) {
            if (height >= 0 && height < stack.length) {
                stack[height] = value;
                height++;
            }
        }

        private int pop() {
            if (height <= 0 || height > stack.length) {
                return 0;
            }
            height--;
            return stack[height];
        }

        private int top() {
            return height > 0 && height <= stack.length ? stack[height - 1] : 0;
        }
    }

    /** Reads a TEXT at the beginning of the tape, from the left, up to its first FAULT. */
    abstract static class Reader {
        static final int END = -1;

        static final int MISPLACED = 1;
        static final int TOO_LONG = 2;
        static final int NO_FRAME = 3;
        static final int TOO_MANY = 4;
        static final int TOO_DEEP = 5;
        static final int OVERFULL = 6;
        static final int NOT_TOLD = 7;

        private final Tape source;
        private int length;
        private int place;
        private int fault;
        private int faultPlace;

        Reader(Tape tape) {
            source = tape;
        }

        final void begin(int n) {
            length = n;
            place = 0;
            fault = 0;
            faultPlace = 0;
        }

        /** The sign to be read; the END also behind a FAULT, so that nothing more is read then. */
        final int peek() {
            return fault != 0 || place >= length ? END : source.at(place);
        }

        final int place() {
            return place;
        }

        final void skip() {
            place++;
        }

        final boolean isSound() {
            return fault == 0;
        }

        final void blame(int number, int at) {
            if (fault == 0) {
                fault = number;
                faultPlace = at;
            }
        }

        final void blameSign() {
            blame(MISPLACED, place);
        }

        final void expect(int sign) {
            if (peek() == sign) {
                skip();
            } else {
                blameSign();
            }
        }

        final int answer(int whenSound) {
            return fault == 0 ? whenSound : -1000 * fault - faultPlace;
        }

        final int readNumber(int mostDigits) {
            int value = 0;
            if (!isDigit(peek())) {
                blameSign();
            }
            for (int i = 0; i < mostDigits && isDigit(peek()); i++) {
                value = 10 * value + peek() - '0';
                skip();
            }
            if (isDigit(peek())) {
                blame(TOO_LONG, place);
            }
            return value;
        }

        static boolean isDigit(int sign) {
            return sign >= '0' && sign <= '9';
        }

        /** What the sign paints, or NONE. */
        static int pictureOf(int sign) {
            if (sign == '-') {
                return GAP;
            }
            return sign >= 'a' && sign <= 'p' ? sign - 'a' : NONE;
        }
    }

    /** Reads a DRUM into a row of its own. */
    static final class DrumReader extends Reader {
        private static final int MOST_OPEN = 2;

        private final int[] row;
        private int size;

        DrumReader(Tape tape) {
            super(tape);
            row = new int[MOST_FRAMES];
        }

        int[] frames() {
            return row;
        }

        int read(int n) {
            begin(n);
            size = 0;
            readRow(0);
            return answer(size);
        }

        private void readRow(int depth) {
            int closing = depth == 0 ? END : ')';
            readItem(depth);
            for (int i = 0; i < DRUM_TEXT && isSound() && peek() != closing; i++) {
                readItem(depth);
            }
        }

        private void readItem(int depth) {
            int first = place();
            int times = 1;
            if (peek() >= '2' && peek() <= '9') {
                times = peek() - '0';
                skip();
            }
            if (peek() == '(') {
                readGroup(depth, first, times);
            } else {
                readFrame(first, times);
            }
        }

        private void readGroup(int depth, int first, int times) {
            if (depth >= MOST_OPEN) {
                blame(TOO_DEEP, place());
                return;
            }
            skip();
            int start = size;
            readRow(depth + 1);
            expect(')');
            if (isSound()) {
                repeat(start, size - start, times, first);
            }
        }

        private void readFrame(int first, int times) {
            int picture = pictureOf(peek());
            if (picture == NONE) {
                blameSign();
                return;
            }
            skip();
            if (size >= 0 && size < row.length) {
                row[size] = picture;
            }
            repeat(size, 1, times, first);
        }

        /** The span of FRAMES from start on stands there so many times. */
        private void repeat(int start, int span, int times, int first) {
            int end = start + span * times;
            if (end > row.length) {
                blame(OVERFULL, first);
                return;
            }
            for (int i = start + span; i < end && i < row.length; i++) {
                if (i - span >= 0) {
                    row[i] = row[i - span];
                }
            }
            size = end;
        }
    }

    /** Reads ORDERS, keeps their LINES, and carries them out. */
    static final class OrdersReader extends Reader {
        private static final int MOST_LINES = 20;
        private static final int MOST_DIGITS = 3;

        private final int[] drums;
        private final int[] signs;
        private final int[] numbers;
        private final int[] pictures;
        private int lines;

        OrdersReader(Tape tape) {
            super(tape);
            drums = new int[MOST_LINES];
            signs = new int[MOST_LINES];
            numbers = new int[MOST_LINES];
            pictures = new int[MOST_LINES];
        }

        int read(int n, Land land) {
            begin(n);
            lines = 0;
            readLine(land);
            for (int i = 0; i < MOST_LINES && peek() != END; i++) {
                expect(';');
                readLine(land);
            }
            return answer(lines);
        }

        private void readLine(Land land) {
            int digit = peek();
            if (digit < '0' || digit > '7') {
                blameSign();
                return;
            }
            if (lines < 0 || lines >= MOST_LINES) {
                blame(TOO_MANY, place());
                return;
            }
            skip();
            drums[lines] = digit - '0';
            signs[lines] = peek();
            numbers[lines] = 0;
            pictures[lines] = GAP;
            readOrder(land.toldDrum(digit - '0'), peek());
            lines++;
        }

        private void readOrder(Drum drum, int sign) {
            boolean bare = sign == '!' || sign == '?';
            boolean framed = sign == '@' || sign == '#';
            if (!bare && !framed && sign != '+' && sign != '-') {
                blameSign();
                return;
            }
            if (drum == null) {
                blame(NOT_TOLD, place() - 1);
                return;
            }
            skip();
            if (bare) {
                return;
            }
            int first = place();
            int number = readNumber(MOST_DIGITS);
            if (framed && number >= drum.frames()) {
                blame(NO_FRAME, first);
            }
            if (sign == '#') {
                expect('=');
                readPicture();
            }
            if (lines >= 0 && lines < numbers.length) {
                numbers[lines] = number;
            }
        }

        private void readPicture() {
            int picture = pictureOf(peek());
            if (picture == NONE) {
                blameSign();
                return;
            }
            skip();
            if (lines >= 0 && lines < pictures.length) {
                pictures[lines] = picture;
            }
        }

        void carryOut(Land land) {
            for (int i = 0; i < lines && i < MOST_LINES; i++) {
                Drum drum = land.toldDrum(drums[i]);
                if (drum != null) {
                    carryOutLine(drum, signs[i], numbers[i], pictures[i]);
                }
            }
        }

        private static void carryOutLine(Drum drum, int sign, int number, int picture) {
            switch (sign) {
                case '+':
                    drum.addTurns(number);
                    break;
                case '-':
                    drum.addTurns(-number);
                    break;
                case '@':
                    drum.turnTo(number);
                    break;
                case '#':
                    drum.paint(number, picture);
                    break;
                default:
                    drum.setPardoned(sign == '!');
                    break;
            }
        }
    }

    /** Reads THE LAW into steps; how deep it stands is carried along as depth. */
    static final class LawReader extends Reader {
        private static final int MOST_OPEN = 6;
        private static final int MOST_DIGITS = 5;

        // Written apart from the law that is followed, which stays if this one has a FAULT.
        private Law draft;

        LawReader(Tape tape, Law first) {
            super(tape);
            draft = first;
        }

        Law draft() {
            return draft;
        }

        void writeNextOn(Law next) {
            draft = next;
        }

        int read(int n) {
            begin(n);
            draft.clear();
            readRule();
            for (int i = 0; i < Law.MOST_RULES && peek() != END; i++) {
                expect(';');
                readRule();
            }
            return answer(draft.rules());
        }

        private void readRule() {
            int letter = peek();
            boolean hasAmount = letter == 'v' || letter == 'a';
            if (!hasAmount && letter != 'l' && letter != 'x') {
                blameSign();
                return;
            }
            if (draft.rules() >= Law.MOST_RULES) {
                blame(TOO_MANY, place());
                return;
            }
            skip();
            int amountStart = draft.steps();
            if (hasAmount) {
                readSum(0);
                draft.addStep(Law.STOP, 0);
            }
            int testStart = draft.steps();
            expect('(');
            readAny(1);
            expect(')');
            draft.addStep(Law.STOP, 0);
            draft.addRule(letter, amountStart, testStart);
        }

        private void readAny(int depth) {
            readAll(depth);
            for (int i = 0; i < LAW_TEXT && peek() == '|'; i++) {
                skip();
                int jump = draft.addStep(Law.JUMP_IF_HELD, 0);
                readAll(depth);
                draft.aimHere(jump);
            }
        }

        private void readAll(int depth) {
            readTest(depth);
            for (int i = 0; i < LAW_TEXT && peek() == '&'; i++) {
                skip();
                int jump = draft.addStep(Law.JUMP_IF_NOT, 0);
                readTest(depth);
                draft.aimHere(jump);
            }
        }

        private void readTest(int depth) {
            if (peek() == '!') {
                if (opens(depth)) {
                    readTest(depth + 1);
                    draft.addStep(Law.NOT, 0);
                }
            } else if (peek() == '(') {
                if (opens(depth)) {
                    readAny(depth + 1);
                    expect(')');
                }
            } else {
                readSum(depth);
                int sign = readComparing();
                readSum(depth);
                draft.addStep(sign, 0);
            }
        }

        private int readComparing() {
            int sign = peek();
            if (sign == '<' || sign == '>' || sign == '=') {
                skip();
            } else {
                blameSign();
            }
            return sign;
        }

        private void readSum(int depth) {
            readProduct(depth);
            for (int i = 0; i < LAW_TEXT && (peek() == '+' || peek() == '-'); i++) {
                int sign = peek();
                skip();
                readProduct(depth);
                draft.addStep(sign, 0);
            }
        }

        private void readProduct(int depth) {
            readFactor(depth);
            for (int i = 0; i < LAW_TEXT && (peek() == '*' || peek() == '/' || peek() == '%'); i++) {
                int sign = peek();
                skip();
                readFactor(depth);
                draft.addStep(sign, 0);
            }
        }

        private void readFactor(int depth) {
            int sign = peek();
            if (sign == '[') {
                if (opens(depth)) {
                    readSum(depth + 1);
                    expect(']');
                }
            } else if (isDigit(sign)) {
                draft.addStep(Law.NUMBER, readNumber(MOST_DIGITS));
            } else if (isLookedAt(sign)) {
                skip();
                draft.addStep(Law.LETTER, sign);
            } else {
                blameSign();
            }
        }

        private boolean opens(int depth) {
            if (depth >= MOST_OPEN) {
                blame(TOO_DEEP, place());
                return false;
            }
            skip();
            return true;
        }

        private static boolean isLookedAt(int sign) {
            return sign == 'k' || sign == 'p' || sign == 'n' || sign == 'u' || sign == 'f'
                    || sign == 's' || sign == 'g' || sign == 't' || sign == 'w';
        }
    }

    /** What the FRAMES of one or two told DRUMS are like, WEAR aside. */
    static final class Rows {
        private static final int DIAL = 16;

        private Rows() {
        }

        /** How many FRAMES of first are as those of second from turn on, read forward (way 1) or back (-1). */
        static int alike(Drum first, Drum second, int turn, int way) {
            int alike = 0;
            for (int i = 0; i < first.frames(); i++) {
                if (first.picture(i) == second.picture(turn + way * i)) {
                    alike++;
                }
            }
            return alike;
        }

        static int turnToMatch(Drum first, Drum second, int way) {
            if (first.frames() != second.frames()) {
                return NOT_SO;
            }
            for (int turn = 0; turn < second.frames(); turn++) {
                if (alike(first, second, turn, way) == first.frames()) {
                    return turn;
                }
            }
            return NOT_SO;
        }

        static int likestTurn(Drum first, Drum second) {
            int best = 0;
            int most = -1;
            for (int turn = 0; turn < second.frames(); turn++) {
                int alike = alike(first, second, turn, 1);
                if (alike > most) {
                    most = alike;
                    best = turn;
                }
            }
            return best;
        }

        /** For how many FRAMES, up to limit, the row of first from i on is as that of second from j on. */
        static int likeFrom(Drum first, int i, Drum second, int j, int limit) {
            int length = 0;
            while (length < limit && first.picture(i + length) == second.picture(j + length)) {
                length++;
            }
            return length;
        }

        static int leastBeginning(Drum drum) {
            int n = drum.frames();
            int best = 0;
            for (int i = 1; i < n; i++) {
                int like = likeFrom(drum, i, drum, best, n);
                if (like < n && drum.picture(i + like) < drum.picture(best + like)) {
                    best = i;
                }
            }
            return best;
        }

        static int period(Drum drum) {
            int n = drum.frames();
            for (int turn = 1; turn < n; turn++) {
                if (likeFrom(drum, turn, drum, 0, n) == n) {
                    return turn;
                }
            }
            return n;
        }

        static int mirror(Drum drum) {
            int n = drum.frames();
            int fewest = n;
            for (int begin = 0; begin < n; begin++) {
                int unlike = 0;
                for (int i = 0; i < n / 2; i++) {
                    if (drum.picture(begin + i) != drum.picture(begin - 1 - i)) {
                        unlike++;
                    }
                }
                fewest = Math.min(fewest, unlike);
            }
            return fewest;
        }

        static int forward(Drum drum) {
            int sum = 0;
            for (int i = 0; i < drum.frames(); i++) {
                int from = drum.picture(i);
                int to = drum.picture(i + 1);
                if (from != GAP && to != GAP) {
                    int on = Math.floorMod(to - from, DIAL);
                    if (on < DIAL / 2) {
                        sum += on;
                    } else if (on > DIAL / 2) {
                        sum -= DIAL - on;
                    }
                }
            }
            return sum;
        }

        static int longestRun(Drum drum, boolean ofGaps) {
            int n = drum.frames();
            int longest = 0;
            int run = 0;
            // Twice round, so that a row over the beginning is seen whole.
            for (int i = 0; i < 2 * n; i++) {
                run = (drum.picture(i) == GAP) == ofGaps ? run + 1 : 0;
                longest = Math.max(longest, run);
            }
            return Math.min(longest, n);
        }

        static int pictureBits(Drum drum) {
            int bits = 0;
            for (int i = 0; i < drum.frames(); i++) {
                bits |= drum.picture(i) == GAP ? 0 : 1 << drum.picture(i);
            }
            return bits;
        }

        static int longestCommon(Drum first, Drum second) {
            int limit = Math.min(first.frames(), second.frames());
            int longest = 0;
            for (int i = 0; i < first.frames(); i++) {
                for (int j = 0; j < second.frames(); j++) {
                    longest = Math.max(longest, likeFrom(first, i, second, j, limit));
                }
            }
            return longest;
        }

        static int unlikeWords(Drum drum, int length, boolean withGaps) {
            int unlike = 0;
            for (int i = 0; i < drum.frames(); i++) {
                boolean isNew = withGaps || !hasGap(drum, i, length);
                for (int j = 0; j < i && isNew; j++) {
                    isNew = likeFrom(drum, i, drum, j, length) < length;
                }
                unlike += isNew ? 1 : 0;
            }
            return unlike;
        }

        private static boolean hasGap(Drum drum, int start, int length) {
            for (int i = 0; i < length; i++) {
                if (drum.picture(start + i) == GAP) {
                    return true;
                }
            }
            return false;
        }

        static int shortestUnseen(Drum drum) {
            int own = Integer.bitCount(pictureBits(drum));
            if (own == 0) {
                return NOT_SO;
            }
            int possible = 1;
            for (int length = 1; length <= MOST_FRAMES; length++) {
                // More than there are FRAMES can't be all seen, so no greater number matters.
                possible = Math.min(possible * own, MOST_FRAMES + 1);
                if (unlikeWords(drum, length, false) < possible) {
                    return length;
                }
            }
            return NOT_SO;
        }

        static int seenByEyes(Drum drum, int eyes, int position) {
            int bits = 0;
            for (int i = 0; i < drum.frames(); i++) {
                int picture = drum.picture(position + i);
                if ((eyes >> i & 1) == 1 && picture != GAP) {
                    bits |= 1 << picture;
                }
            }
            return Integer.bitCount(bits);
        }

        static int bestPosition(Drum drum, int eyes) {
            int best = 0;
            int most = -1;
            for (int position = 0; position < drum.frames(); position++) {
                int seenThere = seenByEyes(drum, eyes, position);
                if (seenThere > most) {
                    most = seenThere;
                    best = position;
                }
            }
            return best;
        }
    }

    /** Questions that need rows to reckon in, or only numbers. */
    static final class Riddles {
        static final int MOST_PRISONERS = 10;
        private static final int FARTHEST = 50;
        private static final int LAST_LEAVE = 255 + FARTHEST;

        private final int[] upper;
        private final int[] lower;
        private final int[] tally;
        private final int[] earliest;
        private final int[] latest;

        Riddles() {
            upper = new int[MOST_FRAMES + 1];
            lower = new int[MOST_FRAMES + 1];
            tally = new int[GAP + 1];
            earliest = new int[MOST_PRISONERS];
            latest = new int[MOST_PRISONERS];
        }

        /** FRAMES d apart must all be alike: the picture that most of them have stays. */
        int fewestPainted(Drum drum, int d) {
            int fewest = 0;
            for (int i = 0; i < d && i < drum.frames(); i++) {
                for (int j = 0; j < tally.length; j++) {
                    tally[j] = 0;
                }
                int all = 0;
                int most = 0;
                for (int j = i; j < drum.frames() && d > 0; j += d) {
                    int picture = drum.picture(j);
                    all++;
                    if (picture >= 0 && picture < tally.length) {
                        tally[picture]++;
                        most = Math.max(most, tally[picture]);
                    }
                }
                fewest += all - most;
            }
            return fewest;
        }

        int fewestEdits(Drum first, Drum second) {
            int fewest = first.frames() + second.frames();
            // Turning one is enough: what turns the other, too, can be cut where that one begins.
            for (int turn = 0; turn < first.frames(); turn++) {
                fewest = Math.min(fewest, editsFrom(first, turn, second));
            }
            return fewest;
        }

        private int editsFrom(Drum first, int turn, Drum second) {
            int width = Math.min(second.frames(), MOST_FRAMES);
            for (int j = 0; j <= width && j < upper.length; j++) {
                upper[j] = j;
            }
            for (int i = 1; i <= first.frames(); i++) {
                lower[0] = i;
                for (int j = 1; j <= width && j < upper.length && j < lower.length; j++) {
                    int paint = first.picture(turn + i - 1) == second.picture(j - 1) ? 0 : 1;
                    int outOrIn = Math.min(upper[j], lower[j - 1]) + 1;
                    lower[j] = Math.min(upper[j - 1] + paint, outOrIn);
                }
                for (int j = 0; j <= width && j < upper.length && j < lower.length; j++) {
                    upper[j] = lower[j];
                }
            }
            return width >= 0 && width < upper.length ? upper[width] : 0;
        }

        int paceOfWord(Drum drum, Tape word, int n, int what) {
            for (int pace = 0; pace < drum.frames(); pace++) {
                for (int from = 0; from < drum.frames(); from++) {
                    int length = 0;
                    while (length < n && drum.picture(from + length * pace) == word.at(length)) {
                        length++;
                    }
                    if (length >= n) {
                        return what == 0 ? pace : from;
                    }
                }
            }
            return NOT_SO;
        }

        /** False if one can leave more than 50 TICKS ahead or behind. */
        boolean takePrisoners(Tape tape, int n) {
            for (int i = 0; i < n && i < MOST_PRISONERS; i++) {
                int due = tape.at(2 * i);
                int far = tape.at(2 * i + 1);
                if (far > FARTHEST) {
                    return false;
                }
                earliest[i] = Math.max(0, due - far);
                latest[i] = due + far;
            }
            return true;
        }

        /** At each TICK that one leaves, of those who can, whose last TICK comes first. */
        int mostLeaving(int n) {
            int gone = 0;
            for (int t = 0; t <= LAST_LEAVE; t++) {
                int next = NONE;
                for (int i = 0; i < n && i < MOST_PRISONERS; i++) {
                    boolean can = earliest[i] <= t && t <= latest[i];
                    if (can && (next < 0 || latest[i] < latest[next])) {
                        next = i;
                    }
                }
                if (next >= 0 && next < MOST_PRISONERS) {
                    latest[next] = NONE;
                    gone++;
                }
            }
            return gone;
        }

        /** The fewest marks on n FRAMES with one in each m side by side; of these the least bits. */
        static int leastMarks(int n, int m) {
            if (m < 1 || m > n) {
                return 0;
            }
            int marks = (n + m - 1) / m;
            // The m highest FRAMES hold a mark, so the highest mark is no lower than this; each one
            // below is as low as the one above lets it, with room for those still to come.
            int at = n - m;
            int bits = 1 << at;
            for (int below = marks - 2; below >= 0; below--) {
                at = Math.max(below, at - m);
                bits |= 1 << at;
            }
            return bits;
        }

        static long oneWay(int n, int k) {
            return n < 1 ? 0 : alikeByTurns(n, k) / n;
        }

        static long eitherWay(int n, int k) {
            if (n < 1) {
                return 0;
            }
            long byMirrors = n % 2 == 1
                    ? n * power(k, (n + 1) / 2)
                    : n / 2 * (power(k, n / 2) + power(k, n / 2 + 1));
            return (alikeByTurns(n, k) + byMirrors) / (2L * n);
        }

        /** How many rows of n each of the n turns leaves as they are, all together. */
        private static long alikeByTurns(int n, int k) {
            long sum = 0;
            for (int turn = 1; turn <= n; turn++) {
                sum += power(k, commonDivisor(turn, n));
            }
            return sum;
        }

        private static int commonDivisor(int a, int b) {
            for (int d = Math.min(a, b); d > 1; d--) {
                if (a % d == 0 && b % d == 0) {
                    return d;
                }
            }
            return 1;
        }

        private static long power(int base, int exponent) {
            long product = 1;
            for (int i = 0; i < exponent; i++) {
                product *= base;
            }
            return product;
        }
    }
}
