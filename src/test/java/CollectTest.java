/** Promises 8, 9, 32 to 35, 37: stage, kept, collect, begin, step, method, undo. */
final class CollectTest {
    private static final String HEAP = "heap 16;kind p num,weak;kind q ref,ref;"
        + "cell a q nil,nil;cell b p 1,nil;cell c p 2,b;"
        + "set a.0 a+1;set a.1 c+1;root 0 c+2;root 5 a;root 7 4;";

    public static void main(String[] args) {
        threads();
        table();
        refusals();
        keptRows();
        undoes();
        empty();
        Check.end();
    }

    private static void next(CellSlide x, int stage, int address, int done, int left) {
        Check.due("stage(0)", x.stage(0), stage);
        Check.due("stage(1)", x.stage(1), address);
        Check.due("stage(2)", x.stage(2), done);
        Check.due("stage(3)", x.stage(3), left);
        Check.due("stage(4)", x.stage(4), Check.NOTHING);
        Check.due("stage(-1)", x.stage(-1), Check.NOTHING);
    }

    // The words are: c 7 8 9, b 10 11 12, a 13 14 15; c goes to 10 11 12.
    private static void threads() {
        CellSlide x = Check.heap(HEAP);
        Check.due("stage(0)", x.stage(0), Check.NOTHING);
        Check.due("begin()", x.begin(), 22);
        next(x, 1, Check.NOTHING, 0, 22);
        Check.holds(x, 9, 1, 10);
        Check.due("step(1)", x.step(1), 21);
        Check.holds(x, 9, 1, -1);
        next(x, 2, -8, 1, 21);
        Check.due("step(1)", x.step(1), 20);
        Check.holds(x, -8, 1, -1);
        Check.holds(x, 9, 3, -8);
        next(x, 2, -7, 2, 20);
        Check.due("step(7)", x.step(7), 13);
        Check.holds(x, -3, 2, 1);
        Check.holds(x, 13, 3, -3);
        Check.holds(x, -1, 0, 4);
        next(x, 3, 7, 9, 13);
        Check.due("step(2)", x.step(2), 11);
        next(x, 3, 9, 11, 11);
        Check.due("step(1)", x.step(1), 10);
        Check.holds(x, 9, 1, -1);
        Check.holds(x, -8, 1, 12);
        next(x, 3, 13, 12, 10);
        Check.due("step(1)", x.step(1), 9);
        Check.holds(x, 13, 2, 1);
        Check.holds(x, -3, 1, 13);
        Check.due("step(2)", x.step(2), 7);
        Check.holds(x, 14, 1, 14);
        Check.holds(x, 15, 1, 8);
        next(x, 4, 15, 15, 7);
        Check.due("step(1)", x.step(1), 6);
        Check.holds(x, 15, 0, 2);
        Check.holds(x, 8, 3, 15);
        next(x, 4, 14, 16, 6);
        Check.due("step(2)", x.step(2), 4);
        next(x, 4, 9, 18, 4);
        Check.due("step(1)", x.step(1), 3);
        Check.holds(x, 12, 1, -1);
        Check.holds(x, 9, 1, -1);
        Check.due("step(1)", x.step(1), 2);
        Check.holds(x, 11, 0, 2);
        Check.holds(x, 8, 0, 2);
        Check.holds(x, 15, 1, 11);
        Check.due("step(1)", x.step(1), 1);
        Check.holds(x, 10, 2, 0);
        Check.holds(x, 7, 2, 0);
        Check.due("has(1)", x.has(1), 7);
        Check.due("has(2)", x.has(2), 3);
        next(x, 8, Check.NOTHING, 21, 1);
        Check.due("step(400)", x.step(400), 0);
        Check.due("has(1)", x.has(1), 10);
        Check.due("has(2)", x.has(2), 2);
        for (int a = 0; a < 10; a++) {
            Check.holds(x, a, 0, 0);
        }
        Check.due("stage(3)", x.stage(3), Check.NOTHING);
        int[] row = {6, 3, 0, 1, Check.NONE};
        for (int what = 0; what < row.length; what++) {
            Check.due("kept(0, " + what + ")", x.kept(0, what), row[what]);
        }
    }

    private static void table() {
        CellSlide x = Check.heap("heap 20;kind p num;kind q ref;"
            + "cell g p 1;cell a q nil;cell h p 2;cell i p 3;cell b p 4;cell j p 5;cell c q b;"
            + "set a.0 c+1;root 0 a;root 1 b+1;root 2 c;method 1;");
        // c 6 7, j 8 9, b 10 11, i 12 13, h 14 15, a 16 17, g 18 19
        Check.due("begin()", x.begin(), 19);
        Check.due("step(1)", x.step(1), 18);
        next(x, 5, 16, 1, 18);
        Check.due("step(1)", x.step(1), 17);
        int[][] first = {{0, 16}, {0, 2}, {2, 1}, {1, 7}};
        for (int w = 0; w < 4; w++) {
            Check.holds(x, 16 + w, first[w][0], first[w][1]);
        }
        Check.holds(x, 15, 0, 2);
        next(x, 5, 10, 2, 17);
        Check.due("step(1)", x.step(1), 16);
        int[][] second = {{0, 10}, {0, 6}, {0, 16}, {0, 2}, {0, 0}, {0, 0}, {2, 0}, {0, 4}};
        for (int w = 0; w < 8; w++) {
            Check.holds(x, 10 + w, second[w][0], second[w][1]);
        }
        Check.holds(x, 9, 0, 5);
        next(x, 5, 6, 3, 16);
        Check.due("step(1)", x.step(1), 15);
        int[][] third = {{0, 6}, {0, 8}, {0, 10}, {0, 6}, {0, 16}, {0, 2}, {0, 0}, {0, 0}, {2, 1}, {1, 10}};
        for (int w = 0; w < 10; w++) {
            Check.holds(x, 6 + w, third[w][0], third[w][1]);
        }
        next(x, 6, -8, 4, 15);
        Check.due("step(3)", x.step(3), 12);
        Check.holds(x, -8, 1, 18);
        Check.holds(x, -7, 1, 17);
        Check.holds(x, -6, 1, 14);
        Check.due("step(5)", x.step(5), 7);
        next(x, 7, 14, 12, 7);
        Check.due("step(2)", x.step(2), 5);
        Check.holds(x, 15, 1, 16);
        next(x, 7, 16, 14, 5);
        Check.due("step(4)", x.step(4), 1);
        Check.holds(x, 19, 1, 15);
        Check.holds(x, 6, 0, 6);
        next(x, 8, Check.NOTHING, 18, 1);
        Check.due("step(1)", x.step(1), 0);
        Check.due("has(1)", x.has(1), 14);
        Check.holds(x, 6, 0, 0);
        Check.due("kept(0, 2)", x.kept(0, 2), 1);
    }

    private static void refusals() {
        CellSlide x = Check.heap(HEAP);
        Check.due("step(1), none going on", x.step(1), Check.NONE);
        Check.due("method(0), as it is", x.method(0), false);
        Check.due("method(2)", x.method(2), false);
        Check.due("method(-1)", x.method(-1), false);
        Check.due("status(3)", x.status(3), 4);
        Check.due("has(8)", x.has(8), 0);
        Check.due("method(1)", x.method(1), true);
        Check.due("has(4)", x.has(4), 1);
        Check.due("begin()", x.begin(), 18);
        for (int n : new int[] {0, -1, 401, Integer.MAX_VALUE, Integer.MIN_VALUE}) {
            Check.due("step(" + n + ")", x.step(n), Check.NONE);
        }
        Check.due("begin()", x.begin(), Check.NONE);
        Check.due("collect()", x.collect(), Check.NONE);
        Check.due("method(0)", x.method(0), false);
        Check.due("status(3)", x.status(3), 12);
        Check.due("step(400)", x.step(400), 0);
        Check.due("step(1)", x.step(1), Check.NONE);
        Check.due("collect()", x.collect(), 10);
        Check.due("has(8)", x.has(8), 4);
    }

    private static void keptRows() {
        CellSlide x = Check.heap(HEAP);
        Check.due("kept(0, 0)", x.kept(0, 0), Check.NONE);
        for (int n = 1; n <= 25; n++) {
            Check.due("collect()", x.collect(), 10);
            Check.due("has(5)", x.has(5), n);
            Check.due("has(6)", x.has(6), Math.min(n, 20));
            if (n == 20) {
                Check.due("kept(0, 1)", x.kept(0, 1), 3);
                Check.due("method(1)", x.method(1), true);
            }
        }
        Check.due("kept(0, 1)", x.kept(0, 1), 0);
        Check.due("kept(0, 3)", x.kept(0, 3), 0);
        Check.due("kept(14, 2)", x.kept(14, 2), 0);
        Check.due("kept(15, 2)", x.kept(15, 2), 1);
        Check.due("kept(19, 2)", x.kept(19, 2), 1);
        Check.due("kept(19, 0)", x.kept(19, 0), 6);
        Check.due("kept(20, 2)", x.kept(20, 2), Check.NONE);
        Check.due("kept(-1, 2)", x.kept(-1, 2), Check.NONE);
        Check.due("kept(0, 4)", x.kept(0, 4), Check.NONE);
        Check.due("kept(0, -1)", x.kept(0, -1), Check.NONE);
        Check.due("undo()", x.undo(), true);
        Check.due("has(5)", x.has(5), 24);
        Check.due("has(6)", x.has(6), 20);
        Check.due("kept(15, 2)", x.kept(15, 2), 0);
    }

    private static void undoes() {
        CellSlide x = Check.heap(HEAP);
        Check.due("undo()", x.undo(), false);
        Check.due("status(5)", x.status(5), 1);
        for (int n = 1; n <= 23; n++) {
            Check.runs(x, "d = " + n + ";", 1, 0, -1);
            Check.due("has(8)", x.has(8), Math.min(n, 20));
        }
        for (int n = 22; n >= 3; n--) {
            Check.due("undo()", x.undo(), true);
            Check.holds(x, -5, 0, n);
        }
        Check.due("undo(), the 21st", x.undo(), false);
        Check.holds(x, -5, 0, 3);
        Check.due("begin()", x.begin(), 22);
        Check.due("step(12)", x.step(12), 10);
        Check.due("step(10)", x.step(10), 0);
        Check.due("collect()", x.collect(), 10);
        Check.due("begin()", x.begin(), 22);
        for (int n = 0; n < 3; n++) {
            Check.due("undo()", x.undo(), true);
        }
        next(x, 3, 13, 12, 10);
        Check.due("has(2)", x.has(2), 3);
        Check.due("step(10)", x.step(10), 0);
        Check.holds(x, 15, 1, 11);
        for (int n = 0; n < 2; n++) {
            Check.due("undo()", x.undo(), true);
        }
        next(x, 1, Check.NOTHING, 0, 22);
        Check.due("undo()", x.undo(), true);
        Check.due("stage(0)", x.stage(0), Check.NOTHING);
        Check.due("collect()", x.collect(), 10);
        Check.holds(x, 15, 1, 11);
        Check.due("remember()", x.remember(), 2);
        Check.bytes(x, 0, 0, 3, 232);
        Check.due("see()", x.see(), 1);
        Check.due("undo()", x.undo(), true);
        Check.due("has(7), which stays", x.has(7), 1);
        Check.due("has(9), which stays", x.has(9), 1);
        Check.due("alike()", x.alike(), 1);
    }

    private static void empty() {
        CellSlide x = Check.heap("heap 16;kind p num;cell a p 1;");
        Check.due("steps(0)", x.steps(0), 10);
        Check.due("steps(1)", x.steps(1), 10);
        Check.due("collect()", x.collect(), 16);
        Check.due("has(2)", x.has(2), 0);
        Check.due("method(1)", x.method(1), true);
        Check.due("begin()", x.begin(), 10);
        Check.due("step(1)", x.step(1), 9);
        next(x, 6, -8, 1, 9);
        Check.due("step(8)", x.step(8), 1);
        next(x, 8, Check.NOTHING, 9, 1);
        Check.due("step(1)", x.step(1), 0);
        Check.due("has(5)", x.has(5), 2);
        Check.due("kept(0, 1)", x.kept(0, 1), 2);
    }
}
