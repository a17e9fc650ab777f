/** Terms II and promises 8, 9, 32 to 35: words, cells, what a collection does step by step. */
final class EdgesOfSliding {
    // c 6 7 (7 points to itself) | b 8 9 (up to a) | y 10 11, dead | a 12 13 (down to b) | z 14 15, dead
    private static final String S = "heap 16;kind r ref;kind n num;cell z n 1;cell a r nil;cell y n 2;cell b r a;"
        + "cell c r c+1;set a.0 b;root 0 b;root 1 b;root 2 c+1;root 3 5;";
    private static final String NONE_LIVE = "heap 16;kind n num;cell a n 1;cell b n 2;";

    private EdgesOfSliding() { }

    static void all() {
        words();
        cells();
        live();
        marks();
        threads();
        table();
        last();
        stage();
        kept();
        collect();
        beginAndStep();
        method();
    }

    /** The heap, behind so many STEPS. */
    private static CellSlide behind(String heap, int steps) {
        CellSlide x = Check.heap(heap);
        int all = x.begin();
        if (steps > 0) {
            Check.due("step(" + steps + ")", x.step(steps), all - steps);
        }
        return x;
    }

    private static void words() {
        Edge.of("II", "WORDS have ADDRESSES 0 and on, REGISTERS -8 .. -1 (REGISTER 0 is -8).");
        CellSlide x = Check.heap("heap 16;root 0 1;root 1 2;root 7 3;");
        Edge.words(x, -8, "N1 N2 nil nil nil nil nil N3 N0");
        Check.due("word(-9, 0)", x.word(-9, 0), Check.NOTHING);
        Check.due("word(15, 0)", x.word(15, 0), 0);
        Check.due("word(16, 0)", x.word(16, 0), Check.NOTHING);
        Edge.of("II", "A WORD, a REGISTER holds a NUMBER (-999 .. 999), a POINTER (to an ADDRESS of 0 or more, or "
            + "nil), a HEAD (a KIND; WORDS alone) or a LINK (to an ADDRESS);");
        x = Check.heap("heap 16;kind q num,num,num;cell a q 1,2,3;cell b q 1,2,3;cell c q 1,2,3;cell d q 1,2,3;"
            + "root 0 999;root 1 0;root 2 d;root 3 a+3;root 4 nil;");
        Edge.runs(x, 4, "a = a + 1; b = b - 999; b = b - 1; c.0 = b;");
        Edge.words(x, -8, "N999 N-999 P0 P15 nil");
        Edge.words(x, 0, "H0 N-999 N2 N3");
        Check.due("begin()", x.begin(), 26);
        Check.due("step(5)", x.step(5), 21);
        Edge.words(x, -6, "H0 N3");
        Check.holds(x, 0, 3, -6);
        Check.holds(x, 15, 3, -5);
        Edge.of("II", "WORDS NUMBER 0, REGISTERS nil at first.");
        x = Check.heap("heap 16;");
        Edge.words(x, -8, "nil nil nil nil nil nil nil nil");
        Edge.words(x, 0, "N0 N0 N0 N0 N0 N0 N0 N0 N0 N0 N0 N0 N0 N0 N0 N0");
    }

    private static void cells() {
        Edge.of("II", "A CELL is a HEAD, behind it a WORD for each FIELD.");
        CellSlide x = Check.heap("heap 16;kind o num;kind s num,num,num,num,num,num;cell a s 1,2,3,4,5,6;cell b o 7;");
        Edge.words(x, 7, "H0 N7 H1 N1 N2 N3 N4 N5 N6");
        Edge.of("II", "CELLS lie one beside the other from THE LIMIT up to the end of the HEAP; THE LIMIT is the number "
            + "of WORDS at first.");
        Check.due("has(1) at first", Check.heap("heap 16;kind o num;").has(1), 16);
        Check.due("has(1)", x.has(1), 7);
        Check.due("cell(0, 0)", x.cell(0, 0), 7);
        Check.due("cell(1, 0)", x.cell(1, 0), 9);
        Check.due("cell(1, 2)", x.cell(1, 2), 7);
        Edge.none("cell(2, 0)", x.cell(2, 0));
        Edge.of("II", "A NEW CELL lies right below THE LIMIT, which goes down to its HEAD; its num FIELDS hold 0, "
            + "others nil.");
        x = Check.heap("heap 16;kind o num,ref,weak;cell a o 1,a,a;");
        Edge.runs(x, 1, "b = new o;");
        Check.due("has(1)", x.has(1), 8);
        Edge.words(x, 7, "N0 H0 N0 nil nil H0 N1 P12 P12");
        Edge.words(x, -7, "P8");
        Edge.of("II", "CELLS that are told are NEW one after the other.");
        Edge.words(Check.heap("heap 16;kind o num;cell a o 1;cell b o 2;cell c o 3;"), 9, "N0 H0 N3 H0 N2 H0 N1");
    }

    private static int liveCells(String heap) {
        CellSlide x = Check.heap(heap);
        int n = 0;
        for (int k = 0; k < x.has(2); k++) {
            n += x.cell(k, 3);
        }
        return n;
    }

    private static void live() {
        Edge.of("II", "LIVE is a CELL to a WORD of which a REGISTER or a ref FIELD of a LIVE one points.");
        String two = "heap 24;kind r ref;kind w weak;kind n num;";
        Check.due("of none", liveCells(two + "cell a r a;"), 0);
        Check.due("by a register", liveCells(two + "cell a r nil;root 7 a;"), 1);
        Check.due("by its other word", liveCells(two + "cell a r nil;root 0 a+1;"), 1);
        Check.due("by a ref field", liveCells(two + "cell a r nil;cell b r a+1;root 0 b;"), 2);
        Check.due("by a ref field of what is not", liveCells(two + "cell a r nil;cell b r a;"), 0);
        Check.due("by a weak field", liveCells(two + "cell a r nil;cell b w a;root 0 b;"), 1);
        Check.due("by a number", liveCells(two + "cell a r nil;root 0 22;root 1 23;"), 0);
        Check.due("by a num field", liveCells(two + "cell a r nil;cell b n 22;root 0 b;"), 1);
        Check.due("a ring", liveCells(two + "cell a r nil;cell b r a;set a.0 b;"), 0);
        Check.due("a ring, by a register", liveCells(two + "cell a r nil;cell b r a;set a.0 b;root 0 a;"), 2);
        Edge.of("II", "BLOCKS are all LIVE WORDS that lie side by side, as many as there are.");
        CellSlide x = Check.heap(S);
        Check.due("cells side by side are one", x.block(0, 1), 4);
        Check.due("block(1, 1)", x.block(1, 1), 2);
        Edge.none("block(2, 1)", x.block(2, 1));
        Edge.none("of none", Check.heap(NONE_LIVE).block(0, 1));
        Check.due("all", Check.heap("heap 16;kind s num,num,num;cell a s 1,2,3;cell b s 1,2,3;cell c s 1,2,3;"
            + "cell d s 1,2,3;root 0 a;root 1 b;root 2 c;root 3 d;").block(0, 1), 16);
        Edge.of("II", "NEW PLACES: LIVE WORDS keep their order, the last one goes to the last WORD of the HEAP, the one "
            + "ahead of it to the last but one, and so on.");
        int[] from = {6, 7, 8, 9, 12, 13};
        for (int i = 0; i < 6; i++) {
            Check.due("goes(" + from[i] + ")", x.goes(from[i]), 10 + i);
        }
    }

    private static void marks() {
        Edge.of("II", "A COLLECTION is of STEPS; the first one MARKS: which are LIVE is settled, weak FIELDS of LIVE "
            + "CELLS that point to one that is not LIVE hold nil.");
        // c 8 9, dead | b 10 11 | a 12 13 | d 14 15, dead
        String heap = "heap 16;kind w weak;kind n num;cell d n 1;cell a w d+1;cell b w a+1;cell c w d;root 0 a;root 1 b;";
        CellSlide x = behind(heap, 0);
        Edge.words(x, 8, "H0 P14 H0 P13 H0 P15 H1 N1");
        x = behind(heap, 1);
        Edge.words(x, 8, "H0 P14 H0 P13 H0 nil H1 N1");
        Edge.words(x, -8, "P12 P10 nil");
        Check.due("settled: the steps that are left", x.stage(3), 17);
    }

    private static void threads() {
        Edge.of("II", "TO THREAD w, which points to t: w holds what t held, t a LINK to w.");
        CellSlide x = behind(S, 2);
        Edge.words(x, -8, "H0 P8 P7 N5");
        Edge.words(x, 6, "H0 P7 L-8 P12 H1 N2 H0 P8 H1 N1");
        Edge.of("II", "TO UNTHREAD t by x: as long as t holds a LINK, to u: t holds what u held, u a POINTER to x.");
        x = behind(S, 12);
        Edge.words(x, -8, "P12 P12 P11 N5");
        Edge.words(x, 6, "H0 P11 H0 P12");
        Edge.of("II", "By METHOD 0 then come, a STEP each: REGISTERS 0 .. 7: one that holds a POINTER, not nil, is "
            + "THREADED.");
        x = behind(S, 3);
        Edge.words(x, -8, "H0 L-8 P7 N5");
        Edge.words(x, 6, "H0 P7 L-7 P12");
        x = behind(S, 4);
        Edge.words(x, -8, "H0 L-8 P7 N5");
        Edge.words(x, 6, "H0 L-6 L-7 P12");
        x = behind(S, 9);
        Edge.words(x, -8, "H0 L-8 P7 N5 nil nil nil nil");
        Edge.words(x, 6, "H0 L-6 L-7 P12 H1 N2 H0 P8 H1 N1");
        Edge.of("II", "FORWARD, LIVE WORDS rising: it is UNTHREADED by its NEW PLACE; if it holds a POINTER to a WORD "
            + "above it, it is THREADED; if to itself, it holds one to its NEW PLACE.");
        x = behind(S, 10);
        Edge.words(x, 6, "H0 L-6 L-7 P12");
        x = behind(S, 11);
        Edge.words(x, -8, "H0 L-8 P11 N5");
        Edge.words(x, 6, "H0 P11 L-7 P12");
        x = behind(S, 13);
        Edge.words(x, 6, "H0 P11 H0 H0 H1 N2 L9 P8");
        x = behind(S, 14);
        Edge.words(x, 6, "H0 P11 H0 P14 H1 N2 H0 P8");
        x = behind(S, 15);
        Edge.words(x, 6, "H0 P11 H0 P14 H1 N2 H0 P8 H1 N1");
        Edge.of("II", "BACKWARD, LIVE WORDS falling: it is UNTHREADED by its NEW PLACE, which holds what it holds then, "
            + "too; if that is a POINTER, not nil, to a WORD below the one that was come to, the NEW PLACE is THREADED.");
        x = behind(S, 16);
        Edge.words(x, 6, "H0 P11 L15 P14 H1 N2 H0 P8 H1 H0");
        x = behind(S, 17);
        Edge.words(x, 6, "H0 P11 L15 P14 H1 N2 H0 P8 H0 H0");
        x = behind(S, 18);
        Edge.words(x, 6, "H0 P11 L15 P14 H1 N2 H0 P14 H0 H0");
        x = behind(S, 19);
        Edge.words(x, 6, "H0 P11 H0 P14 H1 N2 H0 P14 H0 P12");
        x = behind(S, 20);
        Edge.words(x, 6, "H0 P11 H0 P14 H1 P11 H0 P14 H0 P12");
        x = behind("heap 16;kind r ref;kind n num;cell z n 1;cell a r nil;root 0 a;", 12);
        Edge.words(x, 12, "H0 nil H1 nil");
        Edge.of("II", "(A WORD that nothing is told of holds what it held.)");
        x = behind(S, 21);
        Edge.words(x, 0, "N0 N0 N0 N0 N0 N0 H0 P11 H0 P14 H0 P11 H0 P14 H0 P12");
        Edge.words(x, -8, "P12 P12 P11 N5 nil nil nil nil");
    }

    private static void table() {
        String s = S + "method 1;";
        Edge.of("II", "By METHOD 1 then come, a STEP each: BLOCKS, from the highest on: one that does not go up gets "
            + "nothing;");
        String still = "heap 16;kind r ref;kind n num;cell a r nil;cell y n 2;cell b r a;root 0 b;method 1;";
        CellSlide x = behind(still, 2);
        Check.due("the next one", x.stage(1), 10);
        Edge.words(x, 10, "H0 P14 H1 N2 H0 nil");
        x = behind(still, 3);
        Edge.words(x, 10, "N10 N2 H0 P14 H0 nil");
        // It has no row in THE TABLE either, were there room for one.
        x = behind("heap 16;kind r ref;kind n num;cell a r nil;cell y n 2;cell z n 3;cell b r a;root 0 b;method 1;", 3);
        Edge.words(x, 8, "N8 N4 N0 N0 H0 P14 H0 nil");
        Edge.of("II", "else its WORDS lie at their NEW PLACES, and THE TABLE begins where it began: two WORDS, NUMBERS: "
            + "where it began, by how much it went up;");
        x = behind(s, 2);
        Edge.words(x, 6, "H0 P7 H0 P12 H1 N2 N12 N2 H0 P8");
        Edge.of("II", "behind these the rows of two that were in THE TABLE so far;");
        x = behind(s, 3);
        Edge.words(x, 6, "N6 N4 N12 N2 H0 P7 H0 P12 H0 P8");
        Edge.words(x, -8, "P8 P8 P7 N5");
        // three blocks: c 4 5 | dead 6 7 | b 8 9 | dead 10 11 | a 12 13 | dead 14 15
        x = behind("heap 16;kind r ref;kind n num;cell z n 1;cell a r nil;cell y n 2;cell b r a;cell w n 3;cell c r b;"
            + "root 0 c;method 1;", 4);
        Edge.words(x, 4, "N4 N6 N8 N4 N12 N2 H0 P8 H0 P12 H0 nil");
        Edge.of("II", "the WORDS behind THE TABLE up to the lowest NEW PLACE of that BLOCK hold NUMBER 0.");
        String wide = "heap 16;kind n num;kind r ref;cell z n 1;cell y n 2;cell b r b+1;cell w n 3;root 0 b;method 1;";
        x = behind(wide, 1);
        Edge.words(x, 8, "H0 N3 H1 P11 H0 N2 H0 N1");
        x = behind(wide, 2);
        Edge.words(x, 8, "H0 N3 N10 N4 N0 N0 H1 P11");
        Edge.of("II", "Then REGISTERS 0 .. 7; then LIVE WORDS by their NEW PLACES, rising: if it holds a POINTER, not "
            + "nil, this goes up by as much as the BLOCK into which it pointed did.");
        x = behind(s, 4);
        Edge.words(x, -8, "P12 P8 P7 N5 nil");
        x = behind(s, 11);
        Edge.words(x, -8, "P12 P12 P11 N5 nil nil nil nil");
        Edge.words(x, 6, "N6 N4 N12 N2 H0 P7 H0 P12 H0 P8");
        x = behind(s, 13);
        Edge.words(x, 6, "N6 N4 N12 N2 H0 P11 H0 P12 H0 P8");
        x = behind(s, 15);
        Edge.words(x, 6, "N6 N4 N12 N2 H0 P11 H0 P14 H0 P8");
        x = behind(s, 17);
        Edge.words(x, 6, "N6 N4 N12 N2 H0 P11 H0 P14 H0 P12");
        x = behind(still, 18 - 3);
        Edge.words(x, 10, "N10 N2 H0 P14 H0 nil");
    }

    private static void last() {
        Edge.of("II", "The last STEP, by either METHOD: THE LIMIT is the lowest NEW PLACE (the number of WORDS, if none "
            + "is LIVE); all WORDS below hold NUMBER 0.");
        for (String method : new String[] {"", "method 1;"}) {
            CellSlide x = behind(S + method, method.isEmpty() ? 21 : 17);
            Check.due("has(1)", x.has(1), 6);
            Check.due("step(1)", x.step(1), 0);
            Check.due("has(1)", x.has(1), 10);
            Edge.words(x, 0, "N0 N0 N0 N0 N0 N0 N0 N0 N0 N0 H0 P11 H0 P14 H0 P12");
            Edge.words(x, -8, "P12 P12 P11 N5 nil nil nil nil");
            x = behind(NONE_LIVE + method, 9);
            Edge.words(x, 12, "H0 N2 H0 N1");
            Check.due("step(1)", x.step(1), 0);
            Check.due("has(1)", x.has(1), 16);
            Edge.words(x, 0, "N0 N0 N0 N0 N0 N0 N0 N0 N0 N0 N0 N0 N0 N0 N0 N0");
            Edge.words(x, -8, "nil nil nil nil nil nil nil nil");
        }
        Edge.of("II", "KEPT is each COLLECTION that has ended: how many WORDS were LIVE, how many of CELLS were not, "
            + "METHOD, how many weak FIELDS were set to nil (the last 20 are told).");
        CellSlide x = Check.heap("heap 16;kind w weak,weak;kind n num;cell d n 1;cell a w d,d+1;root 0 a;root 1 a+1;");
        Check.due("begin()", x.begin(), 16);
        Check.due("none has ended", x.has(6), 0);
        Check.due("step(400)", x.step(400), 0);
        keptIs(x, 0, 3, 2, 0, 2);
        for (int n = 2; n <= 20; n++) {
            Edge.runs(x, 1, "slide;");
        }
        Check.due("has(6)", x.has(6), 20);
        keptIs(x, 0, 3, 2, 0, 2);
        keptIs(x, 19, 3, 0, 0, 0);
        Check.due("method(1)", x.method(1), true);
        Edge.runs(x, 1, "slide;");
        Check.due("has(6)", x.has(6), 20);
        keptIs(x, 0, 3, 0, 0, 0);
        keptIs(x, 18, 3, 0, 0, 0);
        keptIs(x, 19, 3, 0, 1, 0);
        // Each is unlike the others: n of CELLS, of two words, were not LIVE in the n-th.
        x = Check.heap("heap 160;kind n num;");
        for (int n = 1; n <= 23; n++) {
            Edge.runs(x, 2 * n + 1, "repeat " + n + " [ a = new n; ] slide;");
        }
        for (int k = 0; k < 20; k++) {
            Check.due("kept(" + k + ", 1)", x.kept(k, 1), k == 0 ? 2 * 3 + 2 : 2 * (k + 3) + 2);
        }
    }

    private static void keptIs(CellSlide x, int k, int... want) {
        for (int what = 0; what < 4; what++) {
            Check.due("kept(" + k + ", " + what + ")", x.kept(k, what), want[what]);
        }
    }

    private static void stages(String heap, int[] stages, int[] addresses) {
        CellSlide x = Check.heap(heap);
        int all = x.begin();
        Check.due("steps", all, stages.length);
        for (int n = 0; n < all; n++) {
            Check.due("stage(0) behind " + n, x.stage(0), stages[n]);
            Check.due("stage(1) behind " + n, x.stage(1), addresses[n]);
            Check.due("stage(2) behind " + n, x.stage(2), n);
            Check.due("stage(3) behind " + n, x.stage(3), all - n);
            Check.due("step(1)", x.step(1), all - n - 1);
        }
        Check.due("stage(0) behind the last", x.stage(0), Check.NOTHING);
    }

    private static void stage() {
        Edge.of(8, "Of a COLLECTION that goes on: 0 the next STEP: 1 MARKS, 2 a REGISTER by METHOD 0, 3 FORWARD, "
            + "4 BACKWARD, 5 a BLOCK, 6 a REGISTER by METHOD 1, 7 a WORD by METHOD 1, 8 the last; 1 which ADDRESS that "
            + "is of (of 5 where the BLOCK begins, of 7 the NEW PLACE; NOTHING of 1, 8); 2 how many STEPS were done, "
            + "3 how many are left.");
        int no = Check.NOTHING;
        stages(S, new int[] {1, 2, 2, 2, 2, 2, 2, 2, 2, 3, 3, 3, 3, 3, 3, 4, 4, 4, 4, 4, 4, 8},
            new int[] {no, -8, -7, -6, -5, -4, -3, -2, -1, 6, 7, 8, 9, 12, 13, 13, 12, 9, 8, 7, 6, no});
        stages(S + "method 1;", new int[] {1, 5, 5, 6, 6, 6, 6, 6, 6, 6, 6, 7, 7, 7, 7, 7, 7, 8},
            new int[] {no, 12, 6, -8, -7, -6, -5, -4, -3, -2, -1, 10, 11, 12, 13, 14, 15, no});
        stages(NONE_LIVE, new int[] {1, 2, 2, 2, 2, 2, 2, 2, 2, 8},
            new int[] {no, -8, -7, -6, -5, -4, -3, -2, -1, no});
        stages(NONE_LIVE + "method 1;", new int[] {1, 6, 6, 6, 6, 6, 6, 6, 6, 8},
            new int[] {no, -8, -7, -6, -5, -4, -3, -2, -1, no});
        Edge.of(8, "NOTHING when none goes on, or for others.");
        CellSlide x = Check.heap(S);
        for (int what = -1; what < 5; what++) {
            Check.due("stage(" + what + "), none going on", x.stage(what), Check.NOTHING);
            Check.due("stage(" + what + ") without a heap", new CellSlide().stage(what), Check.NOTHING);
        }
        Check.due("begin()", x.begin(), 22);
        for (int what : new int[] {-1, 4, Integer.MAX_VALUE, Integer.MIN_VALUE}) {
            Check.due("stage(" + what + ")", x.stage(what), Check.NOTHING);
        }
        Check.due("undo()", x.undo(), true);
        Check.due("stage(0), undone", x.stage(0), Check.NOTHING);
    }

    private static void kept() {
        Edge.of(9, "Of the COLLECTIONS told as KEPT, the k-th from the oldest on: 0 WORDS that were LIVE, 1 WORDS of "
            + "CELLS that were not, 2 METHOD, 3 weak FIELDS set to nil.");
        CellSlide x = Check.heap("heap 16;kind w weak,weak;kind n num;cell d n 1;cell a w d,d+1;root 0 a;method 1;");
        Edge.runs(x, 2, "slide; a = nil;");
        Check.due("method(0)", x.method(0), true);
        Check.due("collect()", x.collect(), 16);
        Edge.runs(x, 1, "slide;");
        keptIs(x, 0, 3, 2, 1, 2);
        keptIs(x, 1, 0, 3, 0, 0);
        keptIs(x, 2, 0, 0, 0, 0);
        Edge.of(9, "NONE when there is none such, or for others.");
        for (int[] row : new int[][] {{3, 0}, {-1, 0}, {20, 0}, {Integer.MAX_VALUE, 0}, {Integer.MIN_VALUE, 3}, {0, 4},
            {0, -1}, {2, 4}, {0, Integer.MAX_VALUE}}) {
            Edge.none("kept(" + row[0] + ", " + row[1] + ")", x.kept(row[0], row[1]));
        }
        Edge.none("kept(0, 0) of none", Check.heap(S).kept(0, 0));
        Edge.none("kept(0, 0) without a heap", new CellSlide().kept(0, 0));
    }

    private static void collect() {
        Edge.of(32, "A whole COLLECTION: how many WORDS are below THE LIMIT;");
        for (String method : new String[] {"", "method 1;"}) {
            CellSlide x = Check.heap(S + method);
            Check.due("collect()", x.collect(), 10);
            Check.due("has(1)", x.has(1), 10);
            Check.due("has(5)", x.has(5), 1);
            Edge.words(x, 9, "N0 H0 P11 H0 P14 H0 P12");
            Check.due("collect() again", x.collect(), 10);
            Check.due("collect() of none", Check.heap(NONE_LIVE + method).collect(), 16);
        }
        Check.due("collect() of all", Check.heap("heap 16;kind s num,num,num;cell a s 1,2,3;cell b s 1,2,3;cell c s "
            + "1,2,3;cell d s 1,2,3;root 0 a;root 1 b;root 2 c;root 3 d;").collect(), 0);
        Edge.of(32, "NONE, refused (3), while one goes on, or without a heap.");
        CellSlide x = behind(S, 5);
        String before = Edge.all(x);
        Edge.none("collect()", x.collect());
        Check.due("status(3)", x.status(3), 1);
        Edge.same("all stays", Edge.all(x), before);
        x = new CellSlide();
        Edge.none("collect()", x.collect());
        Check.due("status(3)", x.status(3), 1);
    }

    private static void beginAndStep() {
        Edge.of(33, "A COLLECTION begins: how many STEPS it has;");
        Check.due("begin()", Check.heap(S).begin(), 22);
        Check.due("begin()", Check.heap(S + "method 1;").begin(), 18);
        Check.due("begin() of none", Check.heap(NONE_LIVE).begin(), 10);
        // The most there can be: every word of the largest heap is live.
        CellSlide x = Check.heap("heap 160;kind t ref,num,num;");
        Edge.runs(x, 160, "repeat 40 [ a = new t; a.0 = b; b = a; ]");
        Check.due("no word is left", x.has(1), 0);
        Check.due("begin()", x.begin(), 330);
        Check.due("step(329)", x.step(329), 1);
        Edge.words(x, 0, "H0 P4 N0 N0 H0 P8");
        Edge.of(33, "NONE, refused (3), while one goes on, or without a heap.");
        String before = Edge.all(x);
        Edge.none("begin()", x.begin());
        Check.due("status(3)", x.status(3), 1);
        Edge.same("all stays", Edge.all(x), before);
        x = new CellSlide();
        Edge.none("begin()", x.begin());
        Check.due("status(3)", x.status(3), 1);
        Edge.of(34, "n STEPS (1 .. 400; all that are left, if these are fewer): how many are left;");
        x = behind(S, 0);
        Check.due("step(1)", x.step(1), 21);
        Check.due("step(20)", x.step(20), 1);
        Check.due("step(2) of one that is left", x.step(2), 0);
        Check.due("has(5)", x.has(5), 1);
        x = behind(S, 0);
        Check.due("step(22)", x.step(22), 0);
        x = behind(S, 0);
        Check.due("step(400)", x.step(400), 0);
        Check.due("has(5)", x.has(5), 1);
        Edge.of(34, "NONE, refused (3), when n can't be, or none goes on.");
        x = behind(S, 1);
        before = Edge.all(x);
        for (int n : new int[] {0, -1, 401, Integer.MAX_VALUE, Integer.MIN_VALUE}) {
            Edge.none("step(" + n + ")", x.step(n));
        }
        Check.due("status(3)", x.status(3), 5);
        Edge.same("all stays", Edge.all(x), before);
        Check.due("step(400)", x.step(400), 0);
        Edge.none("step(1), none going on", x.step(1));
        Edge.none("step(0), none going on", x.step(0));
        Check.due("status(3)", x.status(3), 7);
        x = new CellSlide();
        Edge.none("step(1) without a heap", x.step(1));
        Check.due("status(3)", x.status(3), 1);
    }

    private static void method() {
        Edge.of(35, "Another METHOD: true;");
        CellSlide x = Check.heap(S);
        Check.due("method(1)", x.method(1), true);
        Check.due("has(4)", x.has(4), 1);
        Check.due("begin() by it", x.begin(), 18);
        Check.due("step(400)", x.step(400), 0);
        Check.due("method(0)", x.method(0), true);
        Check.due("has(4)", x.has(4), 0);
        Edge.of(35, "false, refused (3), when it is that, it can't be, a COLLECTION goes on, or without a heap.");
        x = Check.heap(S);
        Check.due("method(0), which it is", x.method(0), false);
        for (int method : new int[] {-1, 2, Integer.MAX_VALUE, Integer.MIN_VALUE}) {
            Check.due("method(" + method + ")", x.method(method), false);
        }
        Check.due("status(3)", x.status(3), 5);
        Check.due("has(8)", x.has(8), 0);
        Check.due("begin()", x.begin(), 22);
        Check.due("method(1) while one goes on", x.method(1), false);
        Check.due("has(4)", x.has(4), 0);
        Check.due("status(3)", x.status(3), 6);
        CellSlide none = new CellSlide();
        Check.due("method(1) without a heap", none.method(1), false);
        Check.due("has(4)", none.has(4), 0);
        Check.due("status(3)", none.status(3), 1);
        CellSlide one = Check.heap(S + "method 1;");
        Check.due("method(1), which it is", one.method(1), false);
        Check.due("status(3)", one.status(3), 1);
    }
}
