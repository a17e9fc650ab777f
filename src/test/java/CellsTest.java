/** Promises 10 to 26: cells, and what keeps what. */
final class CellsTest {
    // d 8 9 10 | c 11 12 | b 13 14 15 | e 16 17 (dead) | a 18 19; d to a, b; b to c; c to a.
    private static final String HEAP = "heap 20;kind one ref;kind two ref,ref;kind n num;"
        + "cell a n 7;cell e n 8;cell b two nil,nil;cell c one a+1;cell d two b+1,a;"
        + "set b.0 c+1;set b.1 c;root 1 d+2;root 3 a;root 4 a+1;root 6 3;";

    public static void main(String[] args) {
        cells();
        asFirstCall();
        places();
        ways();
        keepers();
        shapes();
        Check.end();
    }

    private static void cells() {
        CellSlide x = Check.heap(HEAP);
        int[][] rows = {{8, 1, 3, 1}, {11, 0, 2, 1}, {13, 1, 3, 1}, {16, 2, 2, 0}, {18, 2, 2, 1}};
        for (int k = 0; k < rows.length; k++) {
            for (int what = 0; what < 4; what++) {
                Check.due("cell(" + k + ", " + what + ")", x.cell(k, what), rows[k][what]);
            }
            Check.due("cell(" + k + ", 4)", x.cell(k, 4), Check.NONE);
            Check.due("cell(" + k + ", -1)", x.cell(k, -1), Check.NONE);
        }
        Check.due("cell(5, 0)", x.cell(5, 0), Check.NONE);
        Check.due("cell(-1, 0)", x.cell(-1, 0), Check.NONE);
        int[] begins = {8, 8, 8, 11, 11, 13, 13, 13, 16, 16, 18, 18};
        for (int a = 8; a < 20; a++) {
            Check.due("cellOf(" + a + ")", x.cellOf(a), begins[a - 8]);
        }
        for (int a : new int[] {-8, -1, 0, 7, 20, Integer.MAX_VALUE, Integer.MIN_VALUE}) {
            Check.due("cellOf(" + a + ")", x.cellOf(a), Check.NONE);
            Check.due("goes(" + a + ")", x.goes(a), Check.NONE);
            Check.due("comes(" + a + ")", x.comes(a), Check.NONE);
            Check.due("chain(" + a + ", 0)", x.chain(a, 0), Check.NONE);
            Check.due("far(" + a + ")", x.far(a), Check.NONE);
            Check.due("way(" + a + ", 0)", x.way(a, 0), Check.NONE);
            Check.due("retains(" + a + ")", x.retains(a), Check.NONE);
        }
        int[] zeroRooms = {4, 2, 4};
        int[] oneRooms = {5, 3, 5};
        for (int kind = 0; kind < 3; kind++) {
            Check.due("room(" + kind + ", 0)", x.room(kind, 0), zeroRooms[kind]);
            Check.due("room(" + kind + ", 1)", x.room(kind, 1), oneRooms[kind]);
            Check.due("room(" + kind + ", 2)", x.room(kind, 2), Check.NONE);
            Check.due("room(" + kind + ", -1)", x.room(kind, -1), Check.NONE);
        }
        Check.due("room(3, 0)", x.room(3, 0), Check.NONE);
        Check.due("room(-1, 0)", x.room(-1, 0), Check.NONE);
    }

    /** Each of these must find out by itself what is live now. */
    private static void asFirstCall() {
        Check.due("goes(8)", Check.heap(HEAP).goes(8), 10);
        Check.due("comes(10)", Check.heap(HEAP).comes(10), 8);
        Check.due("block(0, 1)", Check.heap(HEAP).block(0, 1), 8);
        Check.due("chain(18, 0)", Check.heap(HEAP).chain(18, 0), 2);
        Check.due("longest(0)", Check.heap(HEAP).longest(0), 2);
        Check.due("steps(1)", Check.heap(HEAP).steps(1), 22);
        Check.due("room(1, 1)", Check.heap(HEAP).room(1, 1), 3);
        Check.due("cell(0, 3)", Check.heap(HEAP).cell(0, 3), 1);
        Check.due("far(11)", Check.heap(HEAP).far(11), 2);
        Check.due("way(11, 0)", Check.heap(HEAP).way(11, 0), 1);
        Check.due("keeps(1)", Check.heap(HEAP).keeps(1), 8);
        Check.due("retains(13)", Check.heap(HEAP).retains(13), 5);
        Check.due("found(-1)", Check.heap(HEAP).found(-1), 4);
        Check.due("remember()", Check.heap(HEAP).remember(), 4);
    }

    private static void places() {
        CellSlide x = Check.heap(HEAP);
        for (int a = 8; a < 20; a++) {
            int to = a < 16 ? a + 2 : a < 18 ? Check.NONE : a;
            Check.due("goes(" + a + ")", x.goes(a), to);
            int from = a < 10 ? Check.NONE : a < 18 ? a - 2 : a;
            Check.due("comes(" + a + ")", x.comes(a), from);
        }
        int[][] blocks = {{8, 8, 2}, {18, 2, 0}};
        for (int k = 0; k < 2; k++) {
            for (int what = 0; what < 3; what++) {
                Check.due("block(" + k + ", " + what + ")", x.block(k, what), blocks[k][what]);
            }
            Check.due("block(" + k + ", 3)", x.block(k, 3), Check.NONE);
            Check.due("block(" + k + ", -1)", x.block(k, -1), Check.NONE);
        }
        Check.due("block(2, 0)", x.block(2, 0), Check.NONE);
        Check.due("block(-1, 0)", x.block(-1, 0), Check.NONE);
        // to 18: register 3, d.1; to 19: register 4, c.0; to 10: register 1; to 14: d.0;
        // down to 12: b.0; down to 11: b.1
        int[] forward = {0, 0, 1, 0, 0, 0, 1, 0, -1, -1, 2, 2};
        int[] backward = {0, 0, 0, 1, 1, 0, 0, 0, -1, -1, 0, 0};
        for (int a = 8; a < 20; a++) {
            Check.due("chain(" + a + ", 0)", x.chain(a, 0), forward[a - 8]);
            Check.due("chain(" + a + ", 1)", x.chain(a, 1), backward[a - 8]);
            Check.due("chain(" + a + ", 2)", x.chain(a, 2), Check.NONE);
            Check.due("chain(" + a + ", -1)", x.chain(a, -1), Check.NONE);
        }
        Check.due("longest(0)", x.longest(0), 2);
        Check.due("longest(1)", x.longest(1), 1);
        Check.due("longest(2)", x.longest(2), Check.NONE);
        Check.due("longest(-1)", x.longest(-1), Check.NONE);
        Check.due("steps(0)", x.steps(0), 30);
        Check.due("steps(1)", x.steps(1), 22);
        Check.due("steps(2)", x.steps(2), Check.NONE);
        Check.due("steps(-1)", x.steps(-1), Check.NONE);
        CellSlide none = Check.heap("heap 16;kind p weak;cell a p a+1;cell b p a;");
        Check.due("longest(0) without live ones", none.longest(0), 0);
        Check.due("longest(1) without live ones", none.longest(1), 0);
        CellSlide self = Check.heap("heap 16;kind p weak;cell a p a+1;cell b p a;root 0 a;root 1 b;");
        Check.due("a pointer to itself is not threaded", self.chain(15, 0) + self.chain(15, 1), 0);
        Check.due("a weak one is", self.chain(14, 0), 2);
        CellSlide dead = Check.heap("heap 16;kind w weak;kind p num;cell a p 1;cell b w a;root 0 b;");
        Check.due("longest(0), of live ones alone", dead.longest(0), 1);
    }

    private static void ways() {
        CellSlide x = Check.heap(HEAP);
        int[] far = {0, 0, 0, 2, 2, 1, 1, 1, -1, -1, 0, 0};
        int[][] ways = {{1}, {1}, {1}, {1, 0, 0}, {1, 0, 0}, {1, 0}, {1, 0}, {1, 0}, {}, {}, {3}, {3}};
        for (int a = 8; a < 20; a++) {
            Check.due("far(" + a + ")", x.far(a), far[a - 8]);
            int[] way = ways[a - 8];
            for (int k = -2; k < 6; k++) {
                int want = k < 0 || k >= way.length ? Check.NONE : way[k];
                Check.due("way(" + a + ", " + k + ")", x.way(a, k), want);
            }
        }
        // The first register's way is the longer one; then of like ones the first register, field.
        CellSlide y = Check.heap("heap 40;kind two ref,ref;cell z two nil,nil;cell m two nil,z;"
            + "cell n two z,z;cell o two m,nil;root 2 o;root 4 n;root 5 m;");
        int[] toZ = {4, 0, -1};
        for (int k = 0; k < 3; k++) {
            Check.due("way to z, " + k, y.way(37, k), toZ[k]);
        }
        Check.due("far of z", y.far(39), 1);
        int[] found = {28, 31, 34, 37};
        Check.due("found(-1)", y.found(-1), 4);
        for (int k = 0; k < 4; k++) {
            Check.due("found(" + k + ")", y.found(k), found[k]);
        }
        Check.due("found(4)", y.found(4), Check.NONE);
        Check.due("found(-2)", y.found(-2), Check.NONE);
        int[] order = {8, 18, 13, 11};
        for (int k = 0; k < 4; k++) {
            Check.due("found(" + k + ")", x.found(k), order[k]);
        }
        CellSlide weak = Check.heap("heap 16;kind w weak;cell a w nil;cell b w a;root 0 b;");
        Check.due("far by a weak field", weak.far(14), Check.NONE);
        Check.due("found(-1)", weak.found(-1), 1);
    }

    private static void keepers() {
        CellSlide x = Check.heap(HEAP);
        int[] keeps = {0, 8, 0, 0, 0, 0, 0, 0};
        for (int r = 0; r < 8; r++) {
            Check.due("keeps(" + r + ")", x.keeps(r), keeps[r]);
        }
        for (int r : new int[] {-1, 8, -8, Integer.MIN_VALUE}) {
            Check.due("keeps(" + r + ")", x.keeps(r), Check.NONE);
        }
        int[] retains = {8, 8, 8, 2, 2, 5, 5, 5, 0, 0, 2, 2};
        for (int a = 8; a < 20; a++) {
            Check.due("retains(" + a + ")", x.retains(a), retains[a - 8]);
        }
        Check.due("best(0)", x.best(0), 1);
        Check.due("best(1)", x.best(1), 8);
        Check.due("best(2)", x.best(2), Check.NONE);
        Check.due("best(-1)", x.best(-1), Check.NONE);
        CellSlide y = Check.heap("heap 16;kind p num;cell a p 1;cell b p 2;root 3 a;root 6 b+1;");
        Check.due("best(0), of like ones", y.best(0), 3);
        Check.due("best(1), of like ones", y.best(1), 2);
    }

    private static void shapes() {
        CellSlide x = Check.heap(HEAP);
        Check.due("alike() of none", x.alike(), Check.NONE);
        Check.due("remember()", x.remember(), 4);
        Check.due("has(8)", x.has(8), 0);
        Check.due("alike()", x.alike(), 1);
        Check.due("collect()", x.collect(), 10);
        Check.due("alike() behind a collection", x.alike(), 1);
        String[] changes = {"d.0 = 8;", "e = e - 1;", "b.1 = nil;", "g = 4;", "g = nil;", "b.0.0 = b.1;",
            "h = b;", "a = new n;", "d = nil; e = nil;", "b.0 = b.0 + 1;", "f = 0;"};
        for (String change : changes) {
            Check.runs(x, change, change.equals("d = nil; e = nil;") ? 2 : 1, 0, -1);
            Check.due("alike() behind " + change, x.alike(), 0);
            Check.due("undo()", x.undo(), true);
            Check.due("alike()", x.alike(), 1);
        }
        Check.runs(x, "a = new n; a = nil;", 2, 0, -1);
        Check.due("alike(), a dead cell more", x.alike(), 1);
        CellSlide w = Check.heap("heap 24;kind w weak,weak;cell a w nil,nil;cell b w a,nil;cell c w b+1,b;"
            + "root 0 b;root 1 c;");
        Check.due("remember()", w.remember(), 2);
        Check.runs(w, "a.0 = nil;", 1, 0, -1);
        Check.due("alike(), one to what is dead is as nil", w.alike(), 1);
        Check.runs(w, "b.0 = a;", 1, 0, -1);
        Check.due("alike(), another word", w.alike(), 0);
        Check.due("remember()", w.remember(), 2);
        Check.due("alike()", w.alike(), 1);
        CellSlide offsets = Check.heap("heap 24;kind s num,num,num,num,num,num;cell a s 1,2,3,4,5,6;"
            + "cell b s 1,2,3,4,5,6;root 0 a;root 1 b;");
        for (int by = 4; by <= 6; by++) {
            Check.runs(offsets, "c = a + " + by + ";", 1, 0, -1);
            Check.due("remember()", offsets.remember(), 2);
            for (int to = 0; to <= 6; to++) {
                Check.runs(offsets, "c = b + " + to + ";", 1, 0, -1);
                Check.due("alike(), into another cell", offsets.alike(), 0);
            }
        }
        CellSlide k = Check.heap("heap 24;kind v weak;kind w weak;cell a v nil;cell b w nil;root 0 a;");
        Check.due("remember()", k.remember(), 1);
        Check.runs(k, "a = new w;", 1, 0, -1);
        Check.due("alike(), another kind", k.alike(), 0);
        Check.due("begin()", k.begin() > 0, true);
        Check.due("remember() while one goes on", k.remember(), Check.NONE);
        Check.due("status(2)", k.status(2), 1);
    }
}
