import java.nio.charset.StandardCharsets;
import java.util.Arrays;

/** What all tests share: counting wrong answers, feeding texts and bytes. */
final class Check {
    static final int NONE = CellSlide.NONE;
    static final int NOTHING = CellSlide.NOTHING;

    private static int wrong = 0;
    private static int asked = 0;
    private static String about = "";

    private Check() { }

    static void due(String call, long got, long want) {
        asked++;
        if (got != want) {
            wrong++;
            if (wrong <= 100) {
                System.out.println(about + call + " answered " + got + ", due is " + want);
            }
        }
    }

    static void due(String call, boolean got, boolean want) {
        due(call, got ? 1 : 0, want ? 1 : 0);
    }

    /** What is told ahead of each wrong answer from here on. */
    static void about(String what) {
        about = what.isEmpty() ? "" : "[" + what + "] ";
    }

    static int asked() {
        return asked;
    }

    /** Ends the test: exit code 1 if an answer was wrong. */
    static void end() {
        System.out.println(asked + " answers, " + wrong + " wrong");
        if (wrong != 0) {
            System.exit(1);
        }
    }

    static boolean clean() {
        return wrong == 0;
    }

    /** The tape, which must be empty, has these bytes. */
    static void bytes(CellSlide x, int... bytes) {
        int[] padded = Arrays.copyOf(bytes, (bytes.length + 19) / 20 * 20);
        // What lies behind the end must not be read: it is made to look as if the text went on.
        Arrays.fill(padded, bytes.length, padded.length, " a0;".charAt(bytes.length % 4));
        for (int i = 0; i < padded.length; i += 20) {
            due("feed", x.feed(four(padded, i), four(padded, i + 4), four(padded, i + 8),
                four(padded, i + 12), four(padded, i + 16)), i + 20);
        }
        due("end", x.end(bytes.length), true);
    }

    private static int four(int[] b, int i) {
        return b[i] << 24 | b[i + 1] << 16 | b[i + 2] << 8 | b[i + 3];
    }

    static void text(CellSlide x, String text) {
        byte[] raw = text.getBytes(StandardCharsets.ISO_8859_1);
        int[] bytes = new int[raw.length];
        for (int i = 0; i < raw.length; i++) {
            bytes[i] = raw[i] & 255;
        }
        bytes(x, bytes);
    }

    static CellSlide heap(String text) {
        CellSlide x = new CellSlide();
        text(x, text);
        due("heap() of " + text, x.heap() > 0, true);
        return x;
    }

    static void heapFault(String text, int fault, int place) {
        CellSlide x = new CellSlide();
        text(x, text);
        due("heap() of " + text, x.heap(), NONE);
        due("fault(0) of " + text, x.fault(0), fault);
        due("fault(1) of " + text, x.fault(1), place);
        due("status(1) of " + text, x.status(1), 1);
        due("has(0) of " + text, x.has(0), 0);
    }

    static int run(CellSlide x, String text) {
        text(x, text);
        return x.run();
    }

    static void runs(CellSlide x, String text, int acts, int failure, int place) {
        due("run() of " + text, run(x, text), acts);
        due("fault(0) of " + text, x.fault(0), 0);
        due("failed(0) of " + text, x.failed(0), failure);
        due("failed(1) of " + text, x.failed(1), place);
    }

    static void runFault(CellSlide x, String text, int fault, int place) {
        int deeds = x.has(8);
        int refused = x.status(2);
        due("run() of " + text, run(x, text), NONE);
        due("fault(0) of " + text, x.fault(0), fault);
        due("fault(1) of " + text, x.fault(1), place);
        due("has(8) of " + text, x.has(8), deeds);
        due("status(2) of " + text, x.status(2), refused + 1);
    }

    static void holds(CellSlide x, int address, int sort, int number) {
        due("word(" + address + ", 0)", x.word(address, 0), sort);
        due("word(" + address + ", 1)", x.word(address, 1), number);
    }
}
