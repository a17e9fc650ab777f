/** Terms IV (how far, ways, what keeps what, shapes) and promises 19 to 26. */
final class EdgesOfKeeping {
    // d 8 9 10 (to b+1, a) | c 11 12 (to a+1) | b 13 14 15 (to c+1, c) | e 16 17, dead | a 18 19
    private static final String H = "heap 20;kind one ref;kind two ref,ref;kind n num;cell a n 7;cell e n 8;"
        + "cell b two nil,nil;cell c one a+1;cell d two b+1,a;set b.0 c+1;set b.1 c;root 1 d+2;root 3 a;root 4 a+1;"
        + "root 6 3;";
    private static final String NONE_LIVE = "heap 16;kind w weak;cell a w nil;cell b w a;cell c w b;";
    private static final String T = "heap 60;kind t ref,ref,ref;kind v weak,ref;";
    // A live cell at 0, from which the one at 4 is come to.
    private static final String FULL = "heap 16;kind t num,num,ref;cell a t 1,2,nil;cell b t 1,2,nil;cell c t 1,2,nil;"
        + "cell d t 1,2,c;root 0 d;root 1 c;";
    private static final int[] NO_WORDS = {-9, -8, -1, 7, 0, 20, 160, Integer.MAX_VALUE, Integer.MIN_VALUE};

    private EdgesOfKeeping() { }

    static void all() {
        farTerm();
        wayTerm();
        keptTerm();
        foundTerm();
        shapeTerm();
        far();
        way();
        keepsAndRetains();
        best();
        found();
        remember();
        alike();
    }

    private static void wayIs(CellSlide x, int address, int... way) {
        for (int k = 0; k < way.length; k++) {
            Check.due("way(" + address + ", " + k + ")", x.way(address, k), way[k]);
        }
        Edge.none("way(" + address + ", " + way.length + ")", x.way(address, way.length));
    }

    // ---- Terms

    private static void farTerm() {
        Edge.of("IV", "HOW FAR a CELL is, is the fewest ref FIELDS by which one comes to it from a REGISTER (0: a REGISTER "
            + "points into it).");
        // z 56 | y 52 (to z) | x 48 (to y, then z) | w 44 (to x)
        String line = T + "cell z t nil,nil,nil;cell y t z,nil,nil;cell x t y,nil,nil;cell w t x,nil,nil;";
        CellSlide x = Check.heap(line + "root 5 w+3;");
        Check.due("far of w", x.far(44), 0);
        Check.due("far of x", x.far(48), 1);
        Check.due("far of y", x.far(52), 2);
        Check.due("far of z", x.far(56), 3);
        Check.due("by a field more", Check.heap(line + "root 5 w;set x.2 z+1;").far(56), 2);
        Check.due("by another register", Check.heap(line + "root 5 w;root 7 y;").far(56), 1);
        Check.due("by one that points into it", Check.heap(line + "root 5 w;root 7 z+2;").far(56), 0);
        CellSlide weak = Check.heap(T + "cell z t nil,nil,nil;cell y t z,nil,nil;cell x v z,y;root 0 x;");
        Check.due("a weak field is none", weak.far(56), 2);
    }

    private static void wayTerm() {
        Edge.of("IV", "THE WAY: a REGISTER, then the FIELDS, as few as can be; of like ones the least, compared from the "
            + "REGISTER on.");
        // z 56 | u 52 | v 48 | m 44 (to u, v)
        String fork = T + "cell z t nil,nil,nil;cell u t nil,nil,z;cell y t z,nil,nil;cell m t u,y,nil;";
        wayIs(Check.heap(fork + "root 0 m;"), 56, 0, 0, 2);
        wayIs(Check.heap(fork + "root 0 m;set m.0 y;set m.1 u;"), 56, 0, 0, 0);
        wayIs(Check.heap(fork + "root 2 m;root 3 m;"), 56, 2, 0, 2);
        wayIs(Check.heap(fork + "root 0 m;root 4 u;root 3 y;"), 56, 3, 0);
        wayIs(Check.heap(fork + "root 0 m;root 3 u;root 4 y;"), 56, 3, 2);
        wayIs(Check.heap(fork + "root 0 m;root 7 z;"), 56, 7);
        wayIs(Check.heap(fork + "root 0 m;set u.1 z;"), 56, 0, 0, 1);
        wayIs(Check.heap(fork + "root 0 m;set m.2 z;"), 56, 0, 2);
        wayIs(Check.heap(fork + "root 6 z;root 5 z+3;"), 56, 5);
    }

    private static void keptTerm() {
        Edge.of("IV", "KEPT BY a REGISTER are WORDS that would not be LIVE, if it held nil;");
        String two = "heap 24;kind r ref;kind w weak;kind n num;cell a n 1;cell b r a;cell c r b;";
        Check.due("all that it alone comes to", Check.heap(two + "root 0 c;").keeps(0), 6);
        Check.due("but for what another one does", Check.heap(two + "root 0 c;root 1 b;").keeps(0), 2);
        Check.due("nothing, if another one is like it", Check.heap(two + "root 0 c;root 1 c+1;").keeps(0), 0);
        Check.due("nothing by nil", Check.heap(two + "root 0 c;").keeps(1), 0);
        Check.due("nothing by a number", Check.heap(two + "root 0 18;").keeps(0), 0);
        Check.due("a ring", Check.heap(two + "set b.0 c;root 0 c;").keeps(0), 4);
        Check.due("a weak field keeps nothing", Check.heap(two + "cell d w a;root 0 a;root 1 d;").keeps(0), 2);
        Edge.of("IV", "by a CELL those that would not be, if all that points into it held nil.");
        CellSlide x = Check.heap(two + "root 0 c;root 1 b+1;");
        Check.due("of c", x.retains(18), 2);
        Check.due("of b, by two", x.retains(20), 4);
        Check.due("of a", x.retains(22), 2);
        CellSlide ring = Check.heap("heap 24;kind r ref;cell a r nil;cell b r a;set a.0 b+1;root 0 b;root 1 b+1;");
        Check.due("of one of a ring", ring.retains(20), 4);
        Check.due("of the other", ring.retains(22), 2);
        CellSlide self = Check.heap("heap 24;kind r ref;cell a r a;root 0 a;");
        Check.due("of one that points to itself", self.retains(22), 2);
        Edge.of("IV", "The BEST register keeps most; of like ones the first.");
        Check.due("most", Check.heap(two + "root 2 a;root 5 c;set b.0 nil;").best(0), 5);
        Check.due("of like ones", Check.heap(two + "root 2 a;root 5 c;set c.0 nil;").best(0), 2);
        Check.due("of none", Check.heap(two).best(0), 0);
    }

    private static void foundTerm() {
        Edge.of("IV", "CELLS are FOUND: REGISTERS 0 .. 7, then FOUND CELLS in their order, each by its ref FIELDS rising: one "
            + "into which is pointed and that was not FOUND yet comes next.");
        // a 56, b 52, c 48, d 44, e 40 (dead), f 37 (weak, ref)
        CellSlide x = Check.heap(T + "cell a t nil,nil,nil;cell b t nil,nil,a+2;cell c t nil,nil,nil;cell d t c+1,b,c;"
            + "cell e t a,b,c;cell f v e,d;root 7 c+3;root 2 f;");
        foundIs(x, 37, 48, 44, 52, 56);
        CellSlide y = Check.heap(T + "cell a t nil,nil,nil;cell b t nil,nil,nil;cell c t a,b,nil;root 7 a;root 6 a+1;"
            + "root 5 c;root 4 8;");
        foundIs(y, 48, 56, 52);
        CellSlide z = Check.heap(T + "cell a t a,a+1,nil;root 0 a;");
        foundIs(z, 56);
    }

    private static void foundIs(CellSlide x, int... cells) {
        Check.due("found(NONE)", x.found(Check.NONE), cells.length);
        for (int k = 0; k < cells.length; k++) {
            Check.due("found(" + k + ")", x.found(k), cells[k]);
        }
        Edge.none("found(" + cells.length + ")", x.found(cells.length));
    }

    /** Whether the shape, remembered ahead of a run, is what it was behind it. */
    private static void alikeBehind(String heap, String run, int want) {
        CellSlide x = Check.heap(heap);
        Check.due("remember()", x.remember() >= 0, true);
        Check.due("alike() at once", x.alike(), 1);
        Check.due("run() of " + run, Check.run(x, run) > 0, true);
        Check.due("failed(0) of " + run, x.failed(0), 0);
        Check.due("alike() behind " + run, x.alike(), want);
        Check.due("undo()", x.undo(), true);
        Check.due("alike(), undone", x.alike(), 1);
    }

    private static void shapeTerm() {
        String heap = "heap 40;kind p num,ref;kind q num,ref;kind w weak,weak;cell a p 1,nil;cell b p 1,nil;cell c p 2,nil;"
            + "cell d w a,c+1;root 0 a;root 1 b+1;root 2 5;root 3 d;";
        Edge.of("IV", "THE SHAPE: what REGISTERS hold; of each CELL as FOUND its KIND, what its FIELDS hold;");
        alikeBehind(heap, "c = 6;", 0);
        alikeBehind(heap, "a = a + 1;", 0);
        alikeBehind(heap + "root 0 5;", "a = 6;", 0);
        alikeBehind(heap + "root 7 5;", "h = 6;", 0);
        alikeBehind(heap, "c = nil;", 0);
        alikeBehind(heap, "e = 0;", 0);
        alikeBehind(heap, "c = 5;", 1);
        alikeBehind(heap, "h = c;", 0);
        alikeBehind(heap, "a.0 = 9;", 0);
        alikeBehind(heap, "a.1 = b;", 0);
        alikeBehind(heap, "a = new p; a.0 = 1; d.0 = a;", 1);
        alikeBehind(heap, "a = new q; a.0 = 1; d.0 = a;", 0);
        alikeBehind(heap, "slide;", 1);
        alikeBehind(heap, "e = new p; e = nil;", 1);
        alikeBehind(heap, "e = a; a = b - 1; b = e + 1; e = nil; d.0 = a;", 1);
        Edge.of("IV", "of a POINTER, as which one its CELL was FOUND and to which of its WORDS it points;");
        alikeBehind(heap, "b = b - 1;", 0);
        alikeBehind(heap, "b = a + 1;", 0);
        alikeBehind(heap, "d.0 = a + 1;", 0);
        alikeBehind(heap, "d.0 = b;", 0);
        alikeBehind(heap, "d.0 = d;", 0);
        alikeBehind(heap, "d.0 = nil;", 0);
        // The last WORD of one FOUND ahead is not the first one of the next.
        String wide = "heap 24;kind s num,num,num,num,num,num;cell a s 1,2,3,4,5,6;cell b s 1,2,3,4,5,6;root 0 a;root 1 b;"
            + "root 2 a+6;";
        alikeBehind(wide, "c = b;", 0);
        alikeBehind(wide, "c = b + 6;", 0);
        for (int by = 0; by <= 6; by++) {
            for (int to = 0; to <= 6; to++) {
                alikeBehind(wide + "root 2 a+" + by + ";", "c = b + " + to + ";", 0);
                alikeBehind(wide + "root 2 a+" + by + ";", "c = a + " + to + ";", by == to ? 1 : 0);
            }
            alikeBehind(wide + "root 2 a+" + by + ";", "c = nil;", 0);
            alikeBehind(wide + "root 2 b+" + by + ";", "c = nil;", 0);
        }
        Edge.of("IV", "one to a CELL that is not LIVE is as nil.");
        alikeBehind(heap, "d.1 = nil;", 1);
        CellSlide x = Check.heap(heap);
        Check.due("remember()", x.remember(), 3);
        Check.due("collect()", x.collect(), 31);
        Check.due("alike(), nil by a collection", x.alike(), 1);
        Edge.runs(x, 1, "d.1 = d;");
        Check.due("alike(), to a live one", x.alike(), 0);
    }

    // ---- promises

    private static void far() {
        Edge.of(19, "HOW FAR the CELL of a WORD is;");
        CellSlide x = Check.heap(H);
        int[] far = {0, 0, 0, 2, 2, 1, 1, 1, -1, -1, 0, 0};
        for (int a = 8; a < 20; a++) {
            Check.due("far(" + a + ")", x.far(a), far[a - 8]);
        }
        Check.due("far(0)", Check.heap(FULL).far(0), 0);
        Edge.of(19, "NONE when it is not LIVE, or there is none such.");
        Edge.none("far(16)", x.far(16));
        Edge.none("far(17)", x.far(17));
        for (int a : NO_WORDS) {
            Edge.none("far(" + a + ")", x.far(a));
        }
        Edge.none("far(0) without a heap", new CellSlide().far(0));
    }

    private static void way() {
        Edge.of(20, "THE WAY to the CELL of a WORD: the REGISTER (k 0), the k-th FIELD (from 1 on).");
        CellSlide x = Check.heap(H);
        for (int a = 8; a < 11; a++) {
            wayIs(x, a, 1);
        }
        wayIs(x, 11, 1, 0, 0);
        wayIs(x, 12, 1, 0, 0);
        wayIs(x, 14, 1, 0);
        wayIs(x, 18, 3);
        wayIs(x, 19, 3);
        wayIs(Check.heap(FULL), 0, 0);
        Edge.of(20, "NONE behind its end, or when there is none such.");
        Edge.none("way(8, 1)", x.way(8, 1));
        Edge.none("way(11, 3)", x.way(11, 3));
        Edge.none("way(11, most)", x.way(11, Integer.MAX_VALUE));
        Edge.none("way(11, -1)", x.way(11, -1));
        Edge.none("way(11, least)", x.way(11, Integer.MIN_VALUE));
        Edge.none("way(16, 0), which is not live", x.way(16, 0));
        for (int a : NO_WORDS) {
            Edge.none("way(" + a + ", 0)", x.way(a, 0));
        }
        Edge.none("way(0, 0) without a heap", new CellSlide().way(0, 0));
    }

    private static void keepsAndRetains() {
        CellSlide x = Check.heap(H);
        Edge.of(21, "How many WORDS are KEPT BY a REGISTER;");
        int[] keeps = {0, 8, 0, 0, 0, 0, 0, 0};
        for (int r = 0; r < 8; r++) {
            Check.due("keeps(" + r + ")", x.keeps(r), keeps[r]);
        }
        Check.due("keeps(7)", Check.heap("heap 16;kind p num;cell a p 1;root 7 a;").keeps(7), 2);
        Edge.of(21, "NONE when there is none such, or without a heap.");
        for (int r : new int[] {-1, 8, -8, Integer.MAX_VALUE, Integer.MIN_VALUE}) {
            Edge.none("keeps(" + r + ")", x.keeps(r));
        }
        Edge.none("keeps(0) without a heap", new CellSlide().keeps(0));
        Edge.of(22, "How many WORDS are KEPT BY the CELL of a WORD (0 if it is not LIVE);");
        int[] retains = {8, 8, 8, 2, 2, 5, 5, 5, 0, 0, 2, 2};
        for (int a = 8; a < 20; a++) {
            Check.due("retains(" + a + ")", x.retains(a), retains[a - 8]);
        }
        Check.due("retains(15) of none live", Check.heap(NONE_LIVE).retains(15), 0);
        Check.due("retains(0)", Check.heap(FULL).retains(0), 4);
        Edge.of(22, "NONE when there is none such.");
        for (int a : NO_WORDS) {
            Edge.none("retains(" + a + ")", x.retains(a));
        }
        Edge.none("retains(0) without a heap", new CellSlide().retains(0));
    }

    private static void best() {
        Edge.of(23, "The BEST register (what 0), how many WORDS it keeps (1).");
        CellSlide x = Check.heap(H);
        Check.due("best(0)", x.best(0), 1);
        Check.due("best(1)", x.best(1), 8);
        CellSlide like = Check.heap("heap 16;kind p num;cell a p 1;cell b p 2;root 6 a;root 7 b;");
        Check.due("best(0) of like ones", like.best(0), 6);
        Check.due("best(1) of like ones", like.best(1), 2);
        CellSlide last = Check.heap("heap 16;kind p num;kind q num,num;cell a p 1;cell b q 2,3;root 6 a;root 7 b;");
        Check.due("best(0)", last.best(0), 7);
        Check.due("best(1)", last.best(1), 3);
        CellSlide none = Check.heap(NONE_LIVE);
        Check.due("best(0) of none", none.best(0), 0);
        Check.due("best(1) of none", none.best(1), 0);
        Edge.of(23, "NONE for others, or without a heap.");
        for (int what : new int[] {2, -1, Integer.MAX_VALUE, Integer.MIN_VALUE}) {
            Edge.none("best(" + what + ")", x.best(what));
        }
        Edge.none("best(0) without a heap", new CellSlide().best(0));
        Edge.none("best(1) without a heap", new CellSlide().best(1));
    }

    private static void found() {
        Edge.of(24, "How many CELLS are FOUND (k NONE), where the k-th begins.");
        CellSlide x = Check.heap(H);
        foundIs(x, 8, 18, 13, 11);
        foundIs(Check.heap(NONE_LIVE));
        foundIs(Check.heap("heap 16;"));
        // As many as can be: a line of eighty.
        CellSlide most = Check.heap("heap 160;kind r ref;");
        Edge.runs(most, 320, "repeat 80 [ b = new r; b.0 = a; a = b; ]");
        Check.due("found(NONE)", most.found(Check.NONE), 80);
        Check.due("found(79)", most.found(79), 158);
        Check.due("far(159)", most.far(159), 79);
        Check.due("way(159, 79)", most.way(159, 79), 0);
        Edge.none("way(159, 80)", most.way(159, 80));
        Check.due("remember()", most.remember(), 80);
        Check.due("alike()", most.alike(), 1);
        // The last field of the last one found belongs to the shape, too.
        Edge.runs(most, 161, "c = a; repeat 79 [ c = c.0; ] c.0 = a; c = nil;");
        Check.due("alike()", most.alike(), 0);
        Edge.of(24, "NONE when there is none such, or without a heap.");
        for (int k : new int[] {4, -2, Integer.MAX_VALUE, Integer.MIN_VALUE}) {
            Edge.none("found(" + k + ")", x.found(k));
        }
        Edge.none("found(80)", most.found(80));
        Edge.none("found(NONE) without a heap", new CellSlide().found(Check.NONE));
        Edge.none("found(0) without a heap", new CellSlide().found(0));
    }

    private static void remember() {
        Edge.of(25, "THE SHAPE is REMEMBERED (no DEED): how many CELLS are FOUND;");
        CellSlide x = Check.heap(H);
        Check.due("remember()", x.remember(), 4);
        Check.due("has(8)", x.has(8), 0);
        Check.due("has(9)", x.has(9), 1);
        Check.due("remember() of none", Check.heap(NONE_LIVE).remember(), 0);
        Edge.runs(x, 1, "b = nil;");
        Check.due("alike()", x.alike(), 0);
        Check.due("remember() anew", x.remember(), 1);
        Check.due("alike()", x.alike(), 1);
        Edge.of(25, "NONE, refused (2), while a COLLECTION goes on, or without a heap.");
        Check.due("begin()", x.begin(), 14);
        Edge.none("remember() while one goes on", x.remember());
        Check.due("status(2)", x.status(2), 1);
        Check.due("has(9)", x.has(9), 1);
        CellSlide going = Check.heap(H);
        Check.due("begin()", going.begin(), 30);
        Edge.none("remember() while one goes on", going.remember());
        Check.due("has(9)", going.has(9), 0);
        CellSlide none = new CellSlide();
        Edge.none("remember() without a heap", none.remember());
        Check.due("status(2)", none.status(2), 1);
        Check.due("has(9)", none.has(9), 0);
    }

    private static void alike() {
        Edge.of(26, "Whether THE SHAPE is as REMEMBERED: 1 or 0;");
        CellSlide x = Check.heap(H);
        Check.due("remember()", x.remember(), 4);
        Check.due("alike()", x.alike(), 1);
        Check.due("collect()", x.collect(), 10);
        Check.due("alike() behind a collection", x.alike(), 1);
        Edge.runs(x, 1, "d.0 = 8;");
        Check.due("alike()", x.alike(), 0);
        Edge.runs(x, 1, "d.0 = 7;");
        Check.due("alike() to what it was again", x.alike(), 1);
        // A shape that begins as the one remembered, but has a cell more.
        CellSlide y = Check.heap("heap 16;kind p num;kind w weak;cell a p 1;cell b w a;root 0 b;");
        Check.due("remember()", y.remember(), 1);
        Edge.runs(y, 1, "h = a.0;");
        Check.due("alike(), one more", y.alike(), 0);
        Check.due("remember()", y.remember(), 2);
        Check.due("undo()", y.undo(), true);
        Check.due("alike(), one fewer", y.alike(), 0);
        Check.due("status(2), no refusals", y.status(2), 0);
        Edge.of(26, "NONE when none is, or without a heap.");
        Edge.none("alike() of none", Check.heap(H).alike());
        Edge.none("alike() without a heap", new CellSlide().alike());
        Check.text(x, H);
        Check.due("heap()", x.heap() > 0, true);
        Edge.none("alike() behind heap()", x.alike());
    }
}
