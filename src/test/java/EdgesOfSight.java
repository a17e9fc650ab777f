/** Terms IV (seen, then, telling) and promises 27 to 29. */
final class EdgesOfSight {
    // b 10 11, x 12 13 (dead), a 14 15 (to b+1). STEPS by METHOD 0: marks 1, registers 2 .. 9, forward 10 .. 13,
    // backward 14 .. 17, last 18; by METHOD 1: marks 1, blocks 2 (14, which stays) and 3, registers 4 .. 11,
    // words 12 .. 15, last 16.
    private static final String H = "heap 16;kind p num;kind q ref;cell a q nil;cell x p 5;cell b p 6;set a.0 b+1;"
        + "root 0 a;root 1 7;";

    private EdgesOfSight() { }

    static void all() {
        terms();
        see();
        refusedSee();
        then();
        tells();
    }

    private static void thenIs(CellSlide x, int from, int to) {
        Check.due("then(NONE)", x.then(Check.NONE), to - from + 1);
        for (int n = from; n <= to; n++) {
            Check.due("then(" + (n - from) + ")", x.then(n - from), n);
        }
        Edge.none("then behind the last", x.then(to - from + 1));
    }

    private static void terms() {
        Edge.of("IV", "SEEN are rows of an ADDRESS, a sort, a number (as word() tells them): THEN are those numbers of STEPS "
            + "(0 .. all of a COLLECTION that would begin now, by the METHOD) behind which all is as SEEN.");
        for (String method : new String[] {"", "method 1;"}) {
            // What word() tells behind each STEP of a collection that begins: THEN has that number.
            CellSlide x = Check.heap(H + method);
            int all = x.begin();
            for (int n = 0; n <= all; n++) {
                CellSlide y = Check.heap(H + method);
                int[] rows = {15, x.word(15, 0), x.word(15, 1), -8, x.word(-8, 0), x.word(-8, 1), 11, x.word(11, 0),
                    x.word(11, 1)};
                Check.due("see()", Edge.see(y, rows), 3);
                boolean there = false;
                for (int k = 0; k < y.then(Check.NONE); k++) {
                    there = there || y.then(k) == n;
                }
                Check.due("THEN has " + n, there, true);
                if (n < all) {
                    Check.due("step(1)", x.step(1), all - n - 1);
                }
            }
        }
        CellSlide x = Check.heap(H);
        Check.due("see()", Edge.see(x, 11, 3, 15), 1);
        thenIs(x, 14, 15);
        Check.due("see() two", Edge.see(x, 11, 3, 15, 14, 2, 1), 2);
        thenIs(x, 14, 15);
        Check.due("see() two of which one never is", Edge.see(x, 11, 3, 15, 14, 2, 0), 2);
        Check.due("then(NONE)", x.then(Check.NONE), 0);
        Check.due("see() the sort alone is not enough", Edge.see(x, 11, 3, 14), 1);
        Check.due("then(NONE)", x.then(Check.NONE), 0);
        Edge.of("IV", "TELLING is the ADDRESS (0 and on) by whose sort and number together the most THEN left are fewest; of "
            + "like ones the first.");
        // 14: head (0, 1), link (2 .. 11), head (12 .. 18): 10 at the most; no other word has fewer.
        x = Check.heap(H);
        Check.due("tells(0)", x.tells(0), 14);
        Check.due("tells(1)", x.tells(1), 10);
        // 0, 1, 12 .. 18: 15 holds pointer 11 (four), number 6 (two), pointer 13 (three).
        Check.due("see()", Edge.see(x, -8, 1, 14, 14, 2, 1), 2);
        Check.due("tells(0)", x.tells(0), 15);
        Check.due("tells(1)", x.tells(1), 4);
        // 14, 15: no word tells them apart, so all are alike.
        Check.due("see()", Edge.see(x, 11, 3, 15), 1);
        Check.due("tells(0), of like ones", x.tells(0), 0);
        Check.due("tells(1)", x.tells(1), 2);
    }

    private static void see() {
        Edge.of(27, "The tape (it goes) tells what is SEEN, 1 to 16 rows of four bytes (ADDRESS, of REGISTERS and 256; sort 0 "
            + ".. 3; its number and 1000, two bytes, the higher first): how many rows;");
        CellSlide x = Check.heap(H);
        Check.bytes(x, 248, 1, 3, 246);
        Check.due("see() of one row", x.see(), 1);
        Check.due("has(7)", x.has(7), 1);
        Check.due("the tape went", x.end(1), false);
        Check.due("-8 points to 14 behind 0, 1, 12 .. 18", x.then(Check.NONE), 9);
        Check.bytes(x, 15, 1, 3, 243);
        Check.due("see()", x.see(), 1);
        thenIs(x, 0, 13);
        Check.bytes(x, 11, 3, 3, 247);
        Check.due("see()", x.see(), 1);
        thenIs(x, 14, 15);
        Check.bytes(x, 14, 3, 3, 224);
        Check.due("see() of a LINK to -8", x.see(), 1);
        thenIs(x, 2, 11);
        Check.bytes(x, 249, 0, 3, 239);
        Check.due("see() of register -7, which holds 7", x.see(), 1);
        thenIs(x, 0, 18);
        Check.due("see() of sixteen rows", Edge.see(x, new int[48]), 16);
        Check.due("has(7)", x.has(7), 16);
        Check.due("has(8), no deed", x.has(8), 0);
        int[][] edges = {{0, 0, 0}, {15, 0, 0}, {-8, 0, 0}, {-1, 0, 0}, {0, 0, -999}, {0, 0, 999}, {0, 1, -1}, {0, 1, 0},
            {0, 1, 15}, {0, 2, 0}, {0, 2, 1}, {0, 3, -8}, {0, 3, 15}, {-8, 2, 0}, {-8, 3, -8}};
        for (int[] row : edges) {
            Check.due("see() of " + row[0] + ", " + row[1] + ", " + row[2], Edge.see(x, row), 1);
        }
        CellSlide most = Check.heap("heap 160;");
        Check.due("the last word of the largest heap", Edge.see(most, 159, 1, 159), 1);
        Edge.none("one behind it", Edge.see(most, 160, 0, 0));
    }

    private static void refusedSee() {
        Edge.of(27, "NONE, refused (1), all staying, when it is none such (an ADDRESS that there is not, a number that such a "
            + "sort never has: NUMBERS -999 .. 999, POINTERS -1 up to the last ADDRESS, KINDS that there are, LINKS -8 up to "
            + "the last ADDRESS), a COLLECTION goes on, or without a heap.");
        CellSlide x = Check.heap(H);
        Check.due("see()", Edge.see(x, 11, 3, 15), 1);
        String before = Edge.all(x);
        int[][] wrong = {{16, 0, 0}, {159, 0, 0}, {160, 0, 0}, {-9, 0, 0}, {0, 0, -1000}, {0, 0, 1000}, {0, 0, 1047},
            {0, 0, 1048}, {0, 0, 64535}, {0, 1, -2}, {0, 1, 16}, {0, 1, -1000}, {0, 2, -1}, {0, 2, 2}, {0, 3, -9},
            {0, 3, 16}, {0, 4, 0}, {0, 255, 0}, {0, 128, 0}};
        for (int[] row : wrong) {
            Edge.none("see() of " + row[0] + ", " + row[1] + ", " + row[2], Edge.see(x, row));
            Edge.none("behind a good one", Edge.see(x, 0, 0, 0, row[0], row[1], row[2]));
        }
        int refused = 2 * wrong.length;
        Check.due("status(1)", x.status(1), refused);
        Edge.none("see() of 17 rows", Edge.see(x, new int[51]));
        for (int length : new int[] {0, 1, 2, 3, 5, 6, 7, 63, 65, 66, 67}) {
            int[] bytes = new int[length];
            for (int i = 0; i < length; i++) {
                bytes[i] = new int[] {0, 0, 3, 232}[i % 4];
            }
            Check.bytes(x, bytes);
            Edge.none("see() of " + length + " bytes", x.see());
            Check.due("the tape went", x.end(1), false);
            x.end(0);
        }
        Check.due("status(1)", x.status(1), refused + 12);
        Edge.same("all stays", Edge.all(x), before);
        thenIs(x, 14, 15);
        Check.due("begin()", x.begin(), 18);
        Edge.none("see() while one goes on", Edge.see(x, 0, 0, 0));
        Check.due("the tape went", x.end(1), false);
        Check.due("status(1)", x.status(1), refused + 13);
        Check.due("undo()", x.undo(), true);
        thenIs(x, 14, 15);
        CellSlide none = new CellSlide();
        Edge.none("see() without a heap", Edge.see(none, 0, 0, 0));
        Check.due("the tape went", none.end(1), false);
        Check.due("status(1)", none.status(1), 1);
        CellSlide noKinds = Check.heap("heap 16;");
        Edge.none("a KIND where there are none", Edge.see(noKinds, 0, 2, 0));
    }

    private static void then() {
        Edge.of(28, "THEN, by what is SEEN (all, if nothing is): how many (k NONE), the k-th, rising.");
        CellSlide x = Check.heap(H);
        thenIs(x, 0, 18);
        Check.due("method(1)", x.method(1), true);
        thenIs(x, 0, 16);
        Check.due("see()", Edge.see(x, 10, 0, 10), 1);
        thenIs(x, 3, 15);
        Check.due("see()", Edge.see(x, 15, 1, 13), 1);
        thenIs(x, 15, 16);
        Check.due("collect()", x.collect(), 12);
        // What would begin now finds all in its place: one block, which does not go up.
        thenIs(x, 0, 15);
        Check.due("nothing is done", x.has(5), 1);
        thenIs(Check.heap("heap 16;"), 0, 10);
        // The most STEPS that there can be.
        CellSlide most = Check.heap("heap 160;kind t ref,num,num;");
        Edge.runs(most, 160, "repeat 40 [ a = new t; a.0 = b; b = a; ]");
        thenIs(most, 0, 330);
        // 1 is threaded to 4 by step 11, 4 is come to by step 14; 159 is nil to the end.
        Check.due("see()", Edge.see(most, 4, 3, 1), 1);
        thenIs(most, 11, 13);
        Check.due("see()", Edge.see(most, 157, 1, -1, 159, 0, 0), 2);
        thenIs(most, 0, 330);
        Check.due("see()", Edge.see(most, 0, 3, -8), 1);
        thenIs(most, 2, 2);
        Edge.of(28, "NONE when there is none such, or without a heap.");
        for (int k : new int[] {16, -2, Integer.MAX_VALUE, Integer.MIN_VALUE}) {
            Edge.none("then(" + k + ")", x.then(k));
        }
        Check.due("see()", Edge.see(x, 15, 0, 13), 1);
        Check.due("then(NONE) of none", x.then(Check.NONE), 0);
        Edge.none("then(0) of none", x.then(0));
        Edge.none("then(NONE) without a heap", new CellSlide().then(Check.NONE));
        Edge.none("then(0) without a heap", new CellSlide().then(0));
    }

    private static void tells() {
        Edge.of(29, "TELLING: the ADDRESS (what 0), how many THEN are left at the most (1).");
        CellSlide x = Check.heap(H);
        Check.due("tells(0)", x.tells(0), 14);
        Check.due("tells(1)", x.tells(1), 10);
        Check.due("again", x.tells(1), 10);
        Check.due("see()", Edge.see(x, 10, 0, 0), 1);
        thenIs(x, 18, 18);
        Check.due("tells(0) of one", x.tells(0), 0);
        Check.due("tells(1) of one", x.tells(1), 1);
        CellSlide bare = Check.heap("heap 16;");
        Check.due("tells(0), nothing ever changing", bare.tells(0), 0);
        Check.due("tells(1), nothing ever changing", bare.tells(1), 11);
        // Sort and number together: 15 of a heap where a NUMBER and a POINTER are of one number.
        CellSlide y = Check.heap("heap 16;kind p num;cell a p 14;root 0 a+1;");
        // 15: number (0, 1), link (2 .. 10), number (11 ..): 14 is never changed; steps 1 + 8 + 2 + 2 + 1.
        Check.due("tells(0)", y.tells(0), 15);
        Check.due("tells(1)", y.tells(1), 9);
        Edge.of(29, "NONE without any, for others, or without a heap.");
        Check.due("see()", Edge.see(x, 10, 0, 0, 10, 2, 0), 2);
        Edge.none("tells(0) without any", x.tells(0));
        Edge.none("tells(1) without any", x.tells(1));
        for (int what : new int[] {2, -1, Integer.MAX_VALUE, Integer.MIN_VALUE}) {
            Edge.none("tells(" + what + ")", bare.tells(what));
        }
        Edge.none("tells(0) without a heap", new CellSlide().tells(0));
        Edge.none("tells(1) without a heap", new CellSlide().tells(1));
    }
}
