import java.nio.charset.StandardCharsets;
import java.util.Arrays;

/** What the tests of the project share. */
final class Checks {
    private static int passed;
    private static int failed;

    private Checks() {
    }

    static void due(String what, long want, long got) {
        if (want == got) {
            passed++;
        } else {
            failed++;
            System.out.println(what + " answered " + got + ", due is " + want);
        }
    }

    static void due(String what, boolean want, boolean got) {
        due(what, want ? 1 : 0, got ? 1 : 0);
    }

    static void end() {
        System.out.println(passed + " passed, " + failed + " failed");
        System.exit(failed == 0 ? 0 : 1);
    }

    /** Feeds the text alone, twenty bytes at a time. */
    static void feed(LateMirrors court, String text) {
        byte[] bytes = text.getBytes(StandardCharsets.ISO_8859_1);
        int fed = (bytes.length + 19) / 20 * 20;
        byte[] padded = Arrays.copyOf(bytes, fed);
        for (int i = 0; i < fed; i += 20) {
            court.feed(word(padded, i), word(padded, i + 4), word(padded, i + 8), word(padded, i + 12),
                    word(padded, i + 16));
        }
        court.back(fed - bytes.length);
    }

    private static int word(byte[] bytes, int i) {
        return (bytes[i] & 255) << 24 | (bytes[i + 1] & 255) << 16 | (bytes[i + 2] & 255) << 8 | bytes[i + 3] & 255;
    }

    static LateMirrors court(String text) {
        LateMirrors court = new LateMirrors();
        feed(court, text);
        due("read of " + text, 0, court.read());
        return court;
    }

    /** The text's fault is due, at that byte; what was told ahead stays. */
    static void fault(String text, int fault, int place) {
        LateMirrors court = court("room kept;");
        feed(court, text);
        due("read of " + text, fault, court.read());
        due("place in " + text, place, court.place());
        due("the tape behind " + text, 0, court.count(7));
        due("rooms behind " + text, 1, court.count(0));
    }
}
