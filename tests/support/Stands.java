import java.util.function.ToIntFunction;

/** Which bytes can stand behind the beginning of a text: all 256 are tried there, and the end. */
final class Stands {
    static final String DIGITS = "0123456789";

    private final ToIntFunction<String> reading;

    Stands(ToIntFunction<String> reading) {
        this.reading = reading;
    }

    /** Only these signs can; the end can't. Any other byte is FAULT 1 at its place. */
    void only(String beginning, String signs) {
        bytes(beginning, signs);
        if (!beginning.isEmpty()) {
            Bench.due("the end behind " + beginning, reading.applyAsInt(beginning), -1000 - beginning.length());
        }
    }

    /** Only these signs can, and the end. */
    void orEnd(String beginning, String signs) {
        bytes(beginning, signs);
        Bench.due("the end behind " + beginning, reading.applyAsInt(beginning) > 0, true);
    }

    private void bytes(String beginning, String signs) {
        int misplaced = -1000 - beginning.length();
        for (char sign = 0; sign < 256; sign++) {
            int got = reading.applyAsInt(beginning + sign);
            if (signs.indexOf(sign) < 0) {
                Bench.due("byte " + (int) sign + " behind " + beginning, got, misplaced);
            } else {
                Bench.due("byte " + (int) sign + " stands behind " + beginning, got != misplaced, true);
            }
        }
    }
}
