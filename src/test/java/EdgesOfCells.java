/** Promises 10 to 18: cells, where words go, chains, steps, room; and what is told while a collection goes on. */
final class EdgesOfCells {
    // d 8 9 10 (to b+1, a) | c 11 12 (to a+1) | b 13 14 15 (to c+1, c) | e 16 17, dead | a 18 19
    private static final String H = "heap 20;kind one ref;kind two ref,ref;kind n num;cell a n 7;cell e n 8;"
        + "cell b two nil,nil;cell c one a+1;cell d two b+1,a;set b.0 c+1;set b.1 c;root 1 d+2;root 3 a;root 4 a+1;"
        + "root 6 3;";
    private static final String NONE_LIVE = "heap 16;kind w weak;cell a w nil;cell b w a;cell c w b;";
    // A live cell at 0: d 0 .. 3 (to c), c 4 .. 7 (to d+1), b, a dead.
    private static final String FULL = "heap 16;kind t num,num,ref;cell a t 1,2,nil;cell b t 1,2,nil;cell c t 1,2,nil;"
        + "cell d t 1,2,c;set c.2 d;root 0 d;";
    private static final int[] NO_WORDS = {-9, -8, -1, 20, 160, Integer.MAX_VALUE, Integer.MIN_VALUE};

    private EdgesOfCells() { }

    static void all() {
        goingOn();
        cell();
        cellOf();
        goesAndComes();
        block();
        chain();
        longest();
        steps();
        room();
        largest();
    }

    private static void goingOn() {
        Edge.of("constants", "Ahead of the calls `cell`, `cellOf`, `goes`, `comes`, `block`, `chain`, `longest`, `steps`, "
            + "`room` the interface says: ---- cells (these, and all up to the deeds, tell NONE while a collection goes "
            + "on).");
        for (String method : new String[] {"", "method 1;"}) {
            CellSlide x = Check.heap(H + method);
            Check.due("remember()", x.remember(), 4);
            int left = x.begin();
            for (int n = 0; left > 0; n++) {
                tellNone(x, 8 + n % 12);
                left = x.step(1);
            }
            Check.due("found(NONE) behind it", x.found(Check.NONE), 4);
            Check.due("alike() behind it", x.alike(), 1);
        }
    }

    private static void tellNone(CellSlide x, int a) {
        Edge.none("cell(0, 0)", x.cell(0, 0));
        Edge.none("cellOf", x.cellOf(a));
        Edge.none("goes", x.goes(a));
        Edge.none("comes", x.comes(a));
        Edge.none("block(0, 0)", x.block(0, 0));
        Edge.none("chain", x.chain(a, 0));
        Edge.none("longest(0)", x.longest(0));
        Edge.none("steps(0)", x.steps(0));
        Edge.none("room(0, 0)", x.room(0, 0));
        Edge.none("far", x.far(a));
        Edge.none("way", x.way(a, 0));
        Edge.none("keeps(1)", x.keeps(1));
        Edge.none("retains", x.retains(a));
        Edge.none("best(0)", x.best(0));
        Edge.none("found(NONE)", x.found(Check.NONE));
        Edge.none("remember()", x.remember());
        Edge.none("alike()", x.alike());
        Edge.none("see()", x.see());
        Edge.none("then(NONE)", x.then(Check.NONE));
        Edge.none("tells(0)", x.tells(0));
    }

    private static void cell() {
        Edge.of(10, "Of the k-th CELL by ADDRESSES: 0 where it begins, 1 KIND, 2 WORDS, 3 whether LIVE.");
        CellSlide x = Check.heap(H);
        int[][] rows = {{8, 1, 3, 1}, {11, 0, 2, 1}, {13, 1, 3, 1}, {16, 2, 2, 0}, {18, 2, 2, 1}};
        for (int k = 0; k < 5; k++) {
            for (int what = 0; what < 4; what++) {
                Check.due("cell(" + k + ", " + what + ")", x.cell(k, what), rows[k][what]);
            }
        }
        Edge.of(10, "NONE when there is none such, or for others.");
        for (int k : new int[] {5, -1, 80, Integer.MAX_VALUE, Integer.MIN_VALUE}) {
            Edge.none("cell(" + k + ", 0)", x.cell(k, 0));
        }
        for (int what : new int[] {4, -1, Integer.MAX_VALUE, Integer.MIN_VALUE}) {
            Edge.none("cell(0, " + what + ")", x.cell(0, what));
        }
        Edge.none("cell(0, 0) of no cells", Check.heap("heap 16;kind p num;").cell(0, 0));
        Edge.none("cell(0, 0) without a heap", new CellSlide().cell(0, 0));
    }

    private static void cellOf() {
        Edge.of(11, "Where the CELL of a WORD begins;");
        CellSlide x = Check.heap(H);
        int[] begins = {8, 8, 8, 11, 11, 13, 13, 13, 16, 16, 18, 18};
        for (int a = 8; a < 20; a++) {
            Check.due("cellOf(" + a + ")", x.cellOf(a), begins[a - 8]);
        }
        CellSlide six = Check.heap("heap 16;kind s num,num,num,num,num,num;cell a s 1,2,3,4,5,6;cell b s 1,2,3,4,5,6;");
        Check.due("cellOf(15)", six.cellOf(15), 9);
        Check.due("cellOf(8)", six.cellOf(8), 2);
        Check.due("cellOf(0)", Check.heap(FULL).cellOf(0), 0);
        Check.due("cellOf(3)", Check.heap(FULL).cellOf(3), 0);
        Edge.of(11, "NONE when there is none such.");
        for (int a : NO_WORDS) {
            Edge.none("cellOf(" + a + ")", x.cellOf(a));
        }
        Edge.none("cellOf(7), below THE LIMIT", x.cellOf(7));
        Edge.none("cellOf(0), below THE LIMIT", x.cellOf(0));
        Edge.none("cellOf(0) without a heap", new CellSlide().cellOf(0));
    }

    private static void goesAndComes() {
        CellSlide x = Check.heap(H);
        Edge.of(12, "The NEW PLACE of a WORD;");
        for (int a = 8; a < 16; a++) {
            Check.due("goes(" + a + ")", x.goes(a), a + 2);
        }
        Check.due("goes(18), which stays", x.goes(18), 18);
        Check.due("goes(19), which stays", x.goes(19), 19);
        Check.due("goes(0)", Check.heap(FULL).goes(0), 8);
        Edge.of(12, "NONE when it is not LIVE, or there is none such.");
        Edge.none("goes(16)", x.goes(16));
        Edge.none("goes(17)", x.goes(17));
        Edge.none("goes(7), below THE LIMIT", x.goes(7));
        for (int a : NO_WORDS) {
            Edge.none("goes(" + a + ")", x.goes(a));
        }
        Edge.none("goes(0) without a heap", new CellSlide().goes(0));
        Edge.none("goes(15) of none live", Check.heap(NONE_LIVE).goes(15));
        CellSlide less = Check.heap("heap 16;kind p num;cell a p 1;cell b p 2;root 0 a;root 1 b;");
        Check.due("goes(14), live", less.goes(14), 14);
        Edge.runs(less, 1, "a = nil;");
        Edge.none("goes(14), not live any more", less.goes(14));
        Edge.none("goes(15), not live any more", less.goes(15));
        Check.due("goes(12)", less.goes(12), 14);
        Edge.of(13, "Of which WORD that is the NEW PLACE;");
        for (int a = 10; a < 18; a++) {
            Check.due("comes(" + a + ")", x.comes(a), a - 2);
        }
        Check.due("comes(18)", x.comes(18), 18);
        Check.due("comes(19)", x.comes(19), 19);
        Check.due("comes(8)", Check.heap(FULL).comes(8), 0);
        CellSlide whole = Check.heap("heap 16;kind t num,num,num;cell a t 1,2,3;cell b t 1,2,3;cell c t 1,2,3;cell d t 1,2,3;"
            + "root 0 a;root 1 b;root 2 c;root 3 d;");
        Check.due("comes(0) of what stays", whole.comes(0), 0);
        Check.due("goes(0) of what stays", whole.goes(0), 0);
        // A NEW PLACE is one whatever lies there now.
        CellSlide free = Check.heap("heap 16;kind p num;cell a p 1;cell b p 2;root 0 b;");
        Check.due("comes(15), where a dead cell is", free.comes(15), 13);
        Edge.of(13, "NONE of none.");
        Edge.none("comes(9)", x.comes(9));
        Edge.none("comes(8)", x.comes(8));
        Edge.none("comes(0)", x.comes(0));
        for (int a : NO_WORDS) {
            Edge.none("comes(" + a + ")", x.comes(a));
        }
        Edge.none("comes(15) of none live", Check.heap(NONE_LIVE).comes(15));
        Edge.none("comes(0) without a heap", new CellSlide().comes(0));
    }

    private static void block() {
        Edge.of(14, "Of the k-th BLOCK from the lowest on: 0 where it begins, 1 its WORDS, 2 by how much it goes up.");
        CellSlide x = Check.heap(H);
        int[][] rows = {{8, 8, 2}, {18, 2, 0}};
        for (int k = 0; k < 2; k++) {
            for (int what = 0; what < 3; what++) {
                Check.due("block(" + k + ", " + what + ")", x.block(k, what), rows[k][what]);
            }
        }
        // 4 5 live | 6 7 dead | 8 9 live | 10 .. 13 dead | 14 15 live
        CellSlide y = Check.heap("heap 16;kind p num;cell a p 1;cell v p 1;cell w p 1;cell b p 1;cell u p 1;cell c p 1;"
            + "root 0 a;root 1 b;root 2 c;");
        int[][] three = {{4, 2, 6}, {8, 2, 4}, {14, 2, 0}};
        for (int k = 0; k < 3; k++) {
            for (int what = 0; what < 3; what++) {
                Check.due("block(" + k + ", " + what + ")", y.block(k, what), three[k][what]);
            }
        }
        Edge.of(14, "NONE when there is none such, or for others.");
        for (int k : new int[] {2, -1, 80, Integer.MAX_VALUE, Integer.MIN_VALUE}) {
            Edge.none("block(" + k + ", 0)", x.block(k, 0));
        }
        for (int what : new int[] {3, -1, Integer.MAX_VALUE, Integer.MIN_VALUE}) {
            Edge.none("block(0, " + what + ")", x.block(0, what));
        }
        Edge.none("block(0, 0) of none live", Check.heap(NONE_LIVE).block(0, 0));
        Edge.none("block(0, 0) without a heap", new CellSlide().block(0, 0));
    }

    private static void chain() {
        Edge.of(15, "How many POINTERS are THREADED at a WORD when it is come to by METHOD 0, FORWARD (pass 0) or BACKWARD "
            + "(1);");
        CellSlide x = Check.heap(H);
        int[] forward = {0, 0, 1, 0, 0, 0, 1, 0, -1, -1, 2, 2};
        int[] backward = {0, 0, 0, 1, 1, 0, 0, 0, -1, -1, 0, 0};
        for (int a = 8; a < 20; a++) {
            Check.due("chain(" + a + ", 0)", x.chain(a, 0), forward[a - 8]);
            Check.due("chain(" + a + ", 1)", x.chain(a, 1), backward[a - 8]);
        }
        // By METHOD 1 it is told as by METHOD 0.
        Check.due("chain(19, 0)", Check.heap(H + "method 1;").chain(19, 0), 2);
        CellSlide many = Check.heap("heap 16;kind s ref,ref,weak;cell a s nil,nil,nil;cell b s a,a,a;set a.0 b+3;"
            + "set a.1 b+3;set a.2 a+3;root 0 a;root 1 a;root 2 a;root 3 a;root 4 a;root 5 a;root 6 a;root 7 a;");
        Check.due("eight registers, three fields", many.chain(12, 0), 11);
        Check.due("two from above", many.chain(11, 1), 2);
        Check.due("none from above is threaded forward", many.chain(11, 0), 0);
        Check.due("none to itself is threaded", many.chain(15, 0) + many.chain(15, 1), 0);
        CellSlide dead = Check.heap("heap 16;kind r ref;cell a r nil;cell b r a;cell c r a+1;set a.0 a;root 0 a;");
        Check.due("none of dead cells", dead.chain(14, 0), 1);
        Check.due("within its cell, down", dead.chain(14, 1), 1);
        Check.due("none of dead cells", dead.chain(15, 0), 0);
        Check.due("chain(0, 0)", Check.heap(FULL).chain(0, 0), 1);
        Check.due("chain(0, 1)", Check.heap(FULL).chain(0, 1), 1);
        Edge.of(15, "NONE when it is not LIVE, there is none such, or for others.");
        for (int pass = 0; pass < 2; pass++) {
            Edge.none("chain(16, ..)", x.chain(16, pass));
            Edge.none("chain(17, ..)", x.chain(17, pass));
            Edge.none("chain(7, ..)", x.chain(7, pass));
            for (int a : NO_WORDS) {
                Edge.none("chain(" + a + ", ..)", x.chain(a, pass));
            }
            Edge.none("without a heap", new CellSlide().chain(0, pass));
        }
        for (int pass : new int[] {2, -1, Integer.MAX_VALUE, Integer.MIN_VALUE}) {
            Edge.none("chain(18, " + pass + ")", x.chain(18, pass));
        }
    }

    private static void longest() {
        Edge.of(16, "The most POINTERS that are THREADED at one (0 .. 1 as there; 0 without LIVE ones);");
        CellSlide x = Check.heap(H);
        Check.due("longest(0)", x.longest(0), 2);
        Check.due("longest(1)", x.longest(1), 1);
        CellSlide y = Check.heap("heap 16;kind t ref,ref,ref;cell a t nil,nil,nil;cell b t nil,nil,nil;set a.0 b;"
            + "set a.1 b;set a.2 b+1;root 0 a;");
        Check.due("longest(0)", y.longest(0), 1);
        Check.due("longest(1)", y.longest(1), 2);
        CellSlide none = Check.heap(NONE_LIVE);
        Check.due("longest(0) without LIVE ones", none.longest(0), 0);
        Check.due("longest(1) without LIVE ones", none.longest(1), 0);
        Check.due("longest(0) without CELLS", Check.heap("heap 16;").longest(0), 0);
        // A weak FIELD that points to what is not LIVE is nil when words are come to.
        CellSlide weak = Check.heap("heap 24;kind w weak,weak,weak;cell d w nil,nil,nil;cell a w d,d,d;root 0 a;");
        Check.due("longest(0), weak ones to the dead", weak.longest(0), 1);
        Edge.of(16, "NONE for others, or without a heap.");
        for (int pass : new int[] {2, -1, Integer.MAX_VALUE, Integer.MIN_VALUE}) {
            Edge.none("longest(" + pass + ")", x.longest(pass));
        }
        Edge.none("longest(0) without a heap", new CellSlide().longest(0));
        Edge.none("longest(1) without a heap", new CellSlide().longest(1));
    }

    private static void steps() {
        Edge.of(17, "How many STEPS a COLLECTION by a METHOD would have;");
        for (String method : new String[] {"", "method 1;"}) {
            CellSlide x = Check.heap(H + method);
            Check.due("steps(0)", x.steps(0), 1 + 8 + 10 + 10 + 1);
            Check.due("steps(1)", x.steps(1), 1 + 2 + 8 + 10 + 1);
            Check.due("as begin()", x.begin(), method.isEmpty() ? 30 : 22);
            CellSlide none = Check.heap(NONE_LIVE + method);
            Check.due("steps(0) of none live", none.steps(0), 10);
            Check.due("steps(1) of none live", none.steps(1), 10);
        }
        Edge.of(17, "NONE for others, or without a heap.");
        CellSlide x = Check.heap(H);
        for (int method : new int[] {2, -1, Integer.MAX_VALUE, Integer.MIN_VALUE}) {
            Edge.none("steps(" + method + ")", x.steps(method));
        }
        Edge.none("steps(0) without a heap", new CellSlide().steps(0));
        Edge.none("steps(1) without a heap", new CellSlide().steps(1));
    }

    /** Every word of the largest heap is live: nothing behind the last one is looked at. */
    private static void largest() {
        Edge.of(12, "The NEW PLACE of a WORD;");
        CellSlide x = Check.heap("heap 160;kind r ref;");
        Edge.runs(x, 320, "repeat 80 [ b = new r; b.0 = a; a = b; ]");
        Check.due("goes(159)", x.goes(159), 159);
        Check.due("goes(0)", x.goes(0), 0);
        Edge.none("goes(160)", x.goes(160));
        Edge.of(13, "Of which WORD that is the NEW PLACE;");
        Check.due("comes(159)", x.comes(159), 159);
        Edge.of(14, "Of the k-th BLOCK from the lowest on: 0 where it begins, 1 its WORDS, 2 by how much it goes up.");
        Check.due("block(0, 1)", x.block(0, 1), 160);
        Check.due("block(0, 2)", x.block(0, 2), 0);
        Edge.none("block(1, 0)", x.block(1, 0));
        Edge.of(15, "NONE when it is not LIVE, there is none such, or for others.");
        Check.due("chain(158, 0)", x.chain(158, 0), 1);
        Check.due("chain(159, 1)", x.chain(159, 1), 0);
        Edge.none("chain(160, 0)", x.chain(160, 0));
        Edge.of(16, "The most POINTERS that are THREADED at one (0 .. 1 as there; 0 without LIVE ones);");
        Check.due("longest(0)", x.longest(0), 2);
        Check.due("longest(1)", x.longest(1), 0);
        Edge.of(17, "How many STEPS a COLLECTION by a METHOD would have;");
        Check.due("steps(0)", x.steps(0), 330);
        Check.due("steps(1)", x.steps(1), 171);
        Check.due("method(1)", x.method(1), true);
        Check.due("collect()", x.collect(), 0);
        Edge.of(10, "Of the k-th CELL by ADDRESSES: 0 where it begins, 1 KIND, 2 WORDS, 3 whether LIVE.");
        Check.due("cell(79, 0)", x.cell(79, 0), 158);
        Check.due("cell(79, 3)", x.cell(79, 3), 1);
        CellSlide six = Check.heap("heap 160;kind s num,num,num,num,num,num;kind r ref;cell a s 1,2,3,4,5,6;root 0 a;");
        Check.due("cell(0, 0)", six.cell(0, 0), 153);
        Check.due("cell(0, 3)", six.cell(0, 3), 1);
        // A dead one at the end: what goes there comes from below.
        CellSlide dead = Check.heap("heap 160;kind r ref;cell z r nil;cell a r nil;root 0 a;");
        Edge.none("goes(159)", dead.goes(159));
        Check.due("comes(159)", dead.comes(159), 157);
    }

    private static void room() {
        Edge.of(18, "How many NEW CELLS of a KIND have room as it is (what 0), behind a COLLECTION (1).");
        CellSlide x = Check.heap(H);
        int[] now = {4, 2, 4};
        int[] behind = {5, 3, 5};
        for (int kind = 0; kind < 3; kind++) {
            Check.due("room(" + kind + ", 0)", x.room(kind, 0), now[kind]);
            Check.due("room(" + kind + ", 1)", x.room(kind, 1), behind[kind]);
        }
        CellSlide full = Check.heap("heap 16;kind t num,num,num;kind s num,num,num,num,num,num;cell a t 1,2,3;"
            + "cell b t 1,2,3;cell c t 1,2,3;cell d t 1,2,3;root 0 a;");
        Check.due("room(0, 0) of a full heap", full.room(0, 0), 0);
        Check.due("room(0, 1): twelve words", full.room(0, 1), 3);
        Check.due("room(1, 1): one of seven", full.room(1, 1), 1);
        CellSlide empty = Check.heap("heap 20;kind s num,num,num,num,num,num;");
        Check.due("room(0, 0): a word too few for three", empty.room(0, 0), 2);
        Check.due("room(0, 1)", empty.room(0, 1), 2);
        Check.due("room(0, 0): as many as can be", Check.heap("heap 160;kind p num;").room(0, 0), 80);
        Edge.of(18, "NONE when there is none such, or for others.");
        for (int kind : new int[] {3, -1, 6, Integer.MAX_VALUE, Integer.MIN_VALUE}) {
            Edge.none("room(" + kind + ", 0)", x.room(kind, 0));
        }
        for (int what : new int[] {2, -1, Integer.MAX_VALUE, Integer.MIN_VALUE}) {
            Edge.none("room(0, " + what + ")", x.room(0, what));
        }
        Edge.none("room(0, 0) without KINDS", Check.heap("heap 16;").room(0, 0));
        Edge.none("room(0, 0) without a heap", new CellSlide().room(0, 0));
    }
}
