/** Promises 27 to 29: see, then, tells. */
final class SightTest {
    private static final String HEAP = "heap 16;kind p num;kind q ref;cell a q nil;cell x p 5;cell b p 6;"
        + "set a.0 b+1;root 0 a;root 1 7;";

    public static void main(String[] args) {
        rows();
        thens();
        telling();
        Check.end();
    }

    private static void sees(CellSlide x, int want, int... rows) {
        int[] bytes = new int[rows.length / 3 * 4];
        for (int r = 0; r < rows.length / 3; r++) {
            bytes[4 * r] = rows[3 * r] & 255;
            bytes[4 * r + 1] = rows[3 * r + 1];
            bytes[4 * r + 2] = (rows[3 * r + 2] + 1000) >> 8;
            bytes[4 * r + 3] = (rows[3 * r + 2] + 1000) & 255;
        }
        Check.bytes(x, bytes);
        Check.due("see()", x.see(), want);
    }

    private static void rows() {
        CellSlide none = new CellSlide();
        sees(none, Check.NONE, 0, 0, 0);
        Check.due("status(1)", none.status(1), 1);
        CellSlide x = Check.heap(HEAP);
        sees(x, 1, 0, 0, 0);
        Check.due("has(7)", x.has(7), 1);
        Check.due("has(8), no deed", x.has(8), 0);
        int[][] good = {{0, 0, -999}, {15, 0, 999}, {-8, 1, -1}, {-1, 1, 15}, {3, 2, 0}, {3, 2, 1},
            {3, 3, -8}, {3, 3, 15}, {-3, 2, 0}};
        for (int[] row : good) {
            sees(x, 1, row);
        }
        int[][] bad = {{0, 0, -1000}, {0, 0, 1000}, {16, 0, 0}, {-9, 0, 0}, {160, 0, 0}, {0, 4, 0},
            {0, 255, 0}, {0, 1, -2}, {0, 1, 16}, {0, 2, -1}, {0, 2, 2}, {0, 3, -9}, {0, 3, 16}, {0, 0, 5000}};
        for (int[] row : bad) {
            sees(x, Check.NONE, row);
        }
        Check.due("status(1)", x.status(1), bad.length);
        Check.bytes(x);
        Check.due("see() of nothing", x.see(), Check.NONE);
        Check.bytes(x, 0, 0, 3);
        Check.due("see() of three bytes", x.see(), Check.NONE);
        Check.bytes(x, 0, 0, 3, 232, 0);
        Check.due("see() of five bytes", x.see(), Check.NONE);
        sees(x, Check.NONE, 0, 0, 0, 0, 0, 1000);
        Check.due("has(7), all staying", x.has(7), 1);
        int[] many = new int[16 * 3];
        sees(x, 16, many);
        Check.due("has(7)", x.has(7), 16);
        sees(x, Check.NONE, new int[17 * 3]);
        Check.due("has(7), all staying", x.has(7), 16);
        Check.due("begin()", x.begin(), 18);
        sees(x, Check.NONE, 0, 0, 0);
        Check.due("then(-1) while one goes on", x.then(-1), Check.NONE);
        Check.due("tells(0) while one goes on", x.tells(0), Check.NONE);
        Check.due("status(1)", x.status(1), bad.length + 6);
    }

    private static void then(CellSlide x, int... want) {
        Check.due("then(-1)", x.then(-1), want.length);
        for (int k = 0; k < want.length; k++) {
            Check.due("then(" + k + ")", x.then(k), want[k]);
        }
        Check.due("then(" + want.length + ")", x.then(want.length), Check.NONE);
        Check.due("then(-2)", x.then(-2), Check.NONE);
    }

    // b 10 11, x 12 13 (dead), a 14 15; STEPS: 0, marks 1, registers 2 .. 9, forward 10 .. 13,
    // backward 14 .. 17, last 18.
    private static void thens() {
        CellSlide x = Check.heap(HEAP);
        then(x, 0, 1, 2, 3, 4, 5, 6, 7, 8, 9, 10, 11, 12, 13, 14, 15, 16, 17, 18);
        sees(x, 1, -8, 2, 1);
        then(x, 2, 3, 4, 5, 6, 7, 8, 9, 10, 11);
        sees(x, 1, 11, 3, 15);
        then(x, 14, 15);
        sees(x, 2, -7, 0, 7, 15, 1, 13);
        then(x, 16, 17, 18);
        sees(x, 2, 10, 0, 0, 15, 1, 13);
        then(x, 18);
        sees(x, 2, 10, 0, 0, 10, 2, 0);
        then(x);
        Check.due("tells(0)", x.tells(0), Check.NONE);
        Check.due("tells(1)", x.tells(1), Check.NONE);
        Check.due("has(5), nothing is done", x.has(5), 0);
        Check.holds(x, 15, 1, 11);
        // By METHOD 1: marks 1, blocks 2 (14) and 3 (10), registers 4 .. 11, words 12 .. 15, last 16.
        Check.due("method(1)", x.method(1), true);
        sees(x, 2, 10, 0, 10, 11, 0, 2);
        then(x, 3, 4, 5, 6, 7, 8, 9, 10, 11, 12, 13, 14, 15);
        sees(x, 1, 15, 1, 13);
        then(x, 15, 16);
        Check.due("collect()", x.collect(), 12);
        then(x, 0, 1, 2, 3, 4, 5, 6, 7, 8, 9, 10, 11, 12, 13, 14, 15);
        Check.text(x, HEAP);
        Check.due("heap()", x.heap(), 9);
        Check.due("has(7)", x.has(7), 0);
        Check.due("then(-1)", x.then(-1), 19);
    }

    private static void telling() {
        CellSlide x = Check.heap(HEAP);
        // 14: head (0 .. 1), link (2 .. 11), head (12 .. 18): 10 left; 15: pointer 11 (0 .. 13),
        // number 6 (14 .. 15), pointer 13 (16 .. 18). 14 is best.
        Check.due("tells(0)", x.tells(0), 14);
        Check.due("tells(1)", x.tells(1), 10);
        Check.due("tells(2)", x.tells(2), Check.NONE);
        Check.due("tells(-1)", x.tells(-1), Check.NONE);
        sees(x, 1, 11, 3, 15);
        Check.due("tells(0)", x.tells(0), 0);
        Check.due("tells(1)", x.tells(1), 2);
        // 0, 1, 12 .. 18: 15 holds pointer 11 behind 0, 1, 12, 13, then number 6, then pointer 13.
        sees(x, 2, -8, 1, 14, 14, 2, 1);
        Check.due("tells(0)", x.tells(0), 15);
        Check.due("then(-1)", x.then(-1), 9);
        Check.due("tells(1)", x.tells(1), 4);
        CellSlide none = new CellSlide();
        Check.due("tells(0) without a heap", none.tells(0), Check.NONE);
        Check.due("then(-1) without a heap", none.then(-1), Check.NONE);
    }
}
