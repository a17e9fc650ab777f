import java.util.Arrays;

/** Terms IV (an image) and promises 39 to 42. */
final class EdgesOfImages {
    // b 11 12 (weak, to a) | a 13 14 15 (999, to a+2)
    private static final String H = "heap 16;kind p num,ref;kind w weak;cell a p 999,a+2;cell b w a;root 0 b+1;root 6 5;"
        + "method 1;";
    // Behind the two ahead and a byte: registers from 2 on, b from 26, a from 32; each of three.
    private static final int[] IMAGE = {1, 11, 1, 3, 244, 1, 3, 231, 1, 3, 231, 1, 3, 231, 1, 3, 231, 1, 3, 231, 0, 3, 237,
        1, 3, 231, 2, 3, 233, 1, 3, 245, 2, 3, 232, 0, 7, 207, 1, 3, 247, 0};

    private EdgesOfImages() { }

    static void all() {
        IMAGE[IMAGE.length - 1] = sum(IMAGE);
        term();
        image();
        octet();
        on();
        notOn();
        cellsOfOn();
        status();
    }

    private static int sum(int[] bytes) {
        int c = 173;
        for (int i = 0; i < bytes.length - 1; i++) {
            c = (3 * c + bytes[i]) % 251;
        }
        return c;
    }

    private static void octetsAre(CellSlide x, int... want) {
        Check.due("image()", x.image(), want.length);
        for (int k = 0; k < want.length; k++) {
            Check.due("octet(" + k + ")", x.octet(k), want[k]);
        }
    }

    private static void term() {
        Edge.of("IV", "AN IMAGE: METHOD; THE LIMIT; for each REGISTER, for each WORD from THE LIMIT on its sort, what it holds "
            + "and 1000 (two bytes, the higher first); last a byte: all ahead from 173 on, c = (3 c + it) mod 251.");
        octetsAre(Check.heap(H), IMAGE);
        // No cells; -999 and nil; the last byte worked out by hand from 173 on.
        CellSlide x = Check.heap("heap 16;root 0 0;root 1 999;root 2 1;");
        Edge.runs(x, 2, "d = 0; d = d - 999;");
        int[] bare = {0, 16, 0, 3, 232, 0, 7, 207, 0, 3, 233, 0, 0, 1, 1, 3, 231, 1, 3, 231, 1, 3, 231, 1, 3, 231, 0};
        bare[26] = sum(bare);
        octetsAre(x, bare);
        CellSlide full = Check.heap("heap 16;kind t num,num,num;cell a t 1,2,3;cell b t 1,2,3;cell c t 1,2,3;cell d t 1,2,3;"
            + "root 0 d;");
        Check.due("image() of a full heap", full.image(), 2 + 3 * 24 + 1);
        Check.due("THE LIMIT 0", full.octet(1), 0);
        Check.due("a pointer to 0", full.octet(4), 232);
    }

    private static void image() {
        Edge.of(39, "AN IMAGE is written: how many bytes;");
        CellSlide x = Check.heap(H);
        Check.due("image()", x.image(), 42);
        Check.due("has(8), no deed", x.has(8), 0);
        Check.due("image() of the largest without cells", Check.heap("heap 160;").image(), 27);
        CellSlide most = Check.heap("heap 160;kind t ref,num,num;");
        Edge.runs(most, 160, "repeat 40 [ a = new t; a.0 = b; b = a; ]");
        Check.due("image() of the largest, full", most.image(), 2 + 3 * 168 + 1);
        Check.due("its last byte", most.octet(506) >= 0 && most.octet(506) < 251, true);
        Edge.none("one behind it", most.octet(507));
        Edge.of(39, "NONE while a COLLECTION goes on, or without a heap.");
        Check.due("begin()", x.begin() > 0, true);
        Edge.none("image()", x.image());
        Check.due("step(400)", x.step(400), 0);
        Check.due("image()", x.image(), 33);
        Edge.none("image() without a heap", new CellSlide().image());
        for (int what = 0; what < 7; what++) {
            Check.due("no refusal is counted", x.status(what), 0);
        }
    }

    private static void octet() {
        Edge.of(40, "Byte k of the latest image();");
        CellSlide x = Check.heap(H);
        Check.due("image()", x.image(), 42);
        Check.due("collect()", x.collect(), 14);
        Check.due("octet(1) of the one that was written", x.octet(1), 11);
        Check.due("octet(41)", x.octet(41), IMAGE[41]);
        Check.due("image()", x.image(), 33);
        Check.due("octet(1) of the latest", x.octet(1), 14);
        Check.due("begin()", x.begin() > 0, true);
        Edge.none("image() while one goes on", x.image());
        Check.due("octet(1) of the latest", x.octet(1), 14);
        Edge.of(40, "NONE when there is none such.");
        for (int k : new int[] {33, 41, 42, -1, Integer.MAX_VALUE, Integer.MIN_VALUE}) {
            Edge.none("octet(" + k + ")", x.octet(k));
        }
        Edge.none("octet(0) of none", Check.heap(H).octet(0));
        Edge.none("octet(0) without a heap", new CellSlide().octet(0));
    }

    private static void on() {
        Edge.of(41, "The tape (it goes) is AN IMAGE of this HEAP: true, all is as it tells, no COLLECTION has ended or goes on, "
            + "nothing is KEPT or can be undone;");
        CellSlide x = Check.heap(H);
        Edge.runs(x, 3, "c = new p; c.1 = c; a = 5;");
        Check.due("method(0)", x.method(0), true);
        Check.due("collect()", x.collect(), 13);
        Check.due("begin()", x.begin() > 0, true);
        Check.due("step(11)", x.step(11) > 0, true);
        Check.bytes(x, IMAGE);
        Check.due("on(), also while one goes on", x.on(), true);
        Check.due("the tape went", x.end(1), false);
        Edge.words(x, -8, "P12 nil nil nil nil nil N5 nil N0 N0 N0 N0 N0 N0 N0 N0 N0 N0 N0 H1 P13 H0 N999 P15");
        int[] has = {16, 11, 2, 2, 1, 0, 0, 0, 0, 0};
        for (int what = 0; what < 10; what++) {
            Check.due("has(" + what + ")", x.has(what), has[what]);
        }
        Check.due("stage(0)", x.stage(0), Check.NOTHING);
        Edge.none("kept(0, 0)", x.kept(0, 0));
        Check.due("undo()", x.undo(), false);
        octetsAre(x, IMAGE);
        Check.due("it goes on as any other", x.collect(), 14);
        // What a heap() with a FAULT read in between is nothing to it.
        Check.text(x, "heap 30;kind q num;cell a q 5;root 3 a;method 1;?");
        Edge.none("heap()", x.heap());
        Check.bytes(x, bare(16));
        Check.due("on()", x.on(), true);
        Check.due("has(0)", x.has(0), 16);
        Check.due("has(1)", x.has(1), 16);
        Edge.words(x, -8, "nil nil nil nil nil nil nil nil N0 N0 N0 N0 N0 N0 N0 N0 N0 N0 N0 N0 N0 N0 N0 N0");
        CellSlide most = Check.heap("heap 160;kind t ref,num,num;");
        Edge.runs(most, 160, "repeat 40 [ a = new t; a.0 = b; b = a; ]");
        int[] full = Edge.imageOf(most);
        Edge.runs(most, 2, "a = nil; b = nil;");
        Check.due("collect()", most.collect(), 160);
        Check.bytes(most, full);
        Check.due("on() of the largest, full", most.on(), true);
        Check.due("has(2)", most.has(2), 40);
        octetsAre(most, full);
        Edge.of(41, "(SEEN, REMEMBERED, how a RUN FAILED stay.)");
        x = Check.heap(H);
        Edge.fails(x, 0, 2, " ^a.1 = a;");
        Check.due("see()", Edge.see(x, 15, 1, 15), 1);
        Check.due("remember()", x.remember(), 1);
        Check.bytes(x, IMAGE);
        Check.due("on()", x.on(), true);
        Check.due("has(7)", x.has(7), 1);
        Check.due("has(9)", x.has(9), 1);
        Check.due("alike()", x.alike(), 1);
        Check.due("then(NONE): until the block of b goes there", x.then(Check.NONE), 2);
        Check.due("failed(0)", x.failed(0), 2);
        Check.due("failed(1)", x.failed(1), 1);
    }

    /** Bytes at places are changed, the last one is mended: whether it is an image still. */
    private static void changed(boolean want, int... changes) {
        int[] bytes = IMAGE.clone();
        for (int i = 0; i < changes.length; i += 2) {
            bytes[changes[i]] = changes[i + 1];
        }
        bytes[41] = sum(bytes);
        tried(H, bytes, want, "on() with " + Arrays.toString(changes));
    }

    private static void tried(String heap, int[] bytes, boolean want, String what) {
        CellSlide x = Check.heap(heap);
        Edge.runs(x, 1, "slide;");
        String before = Edge.all(x);
        Check.bytes(x, bytes);
        Check.due(what, x.on(), want);
        Check.due("status(6): " + what, x.status(6), want ? 0 : 1);
        Check.due("the tape went", x.end(1), false);
        if (!want) {
            Edge.same("all stays: " + what, Edge.all(x), before);
            Check.due("undo(): " + what, x.undo(), true);
        }
    }

    /** The last byte is what is left of 251: a byte that differs by 251 leaves it as it is, but it is not the same byte. */
    private static void likeSums() {
        int[] bytes = IMAGE.clone();
        bytes[36] = 3;
        bytes[37] = 255;
        bytes[41] = sum(bytes);
        tried(H, bytes, true, "23 in a num field");
        bytes[37] = 4;
        Check.due("the last byte is as it was", bytes[41], sum(bytes));
        tried(H, bytes, true, "-228 in it, by the same last byte");
        CellSlide x = Check.heap(H);
        Check.bytes(x, bytes);
        Check.due("on()", x.on(), true);
        Check.holds(x, 14, 0, -228);
        bytes[0] = 252;
        Check.due("the last byte is as it was", bytes[41], sum(bytes));
        tried(H, bytes, false, "METHOD 252, by the same last byte");
        bytes[0] = 1;
        for (int number = 0; number < 1000 && (number == 0 || bytes[41] > 4); number++) {
            bytes[36] = (number + 1000) >> 8;
            bytes[37] = (number + 1000) & 255;
            bytes[41] = sum(bytes);
        }
        tried(H, bytes, true, "a last byte of 4 or less");
        bytes[41] += 251;
        Check.due("it is a byte still", bytes[41] < 256, true);
        tried(H, bytes, false, "251 more than the last byte that is due");
    }

    private static void notOn() {
        Edge.of(41, "false, refused (6), all staying, when it is none");
        changed(true);
        int[] bytes = IMAGE.clone();
        for (int add : new int[] {1, 128, 250}) {
            bytes[41] = (IMAGE[41] + add) % 251;
            tried(H, bytes, false, "the last byte and " + add);
        }
        bytes[41] = 255;
        tried(H, bytes, false, "the last byte 255");
        for (int length : new int[] {0, 1, 2, 3, 26, 27, 39, 41, 43, 44, 45, 60}) {
            int[] other = Arrays.copyOf(IMAGE, length);
            if (length > 0) {
                other[length - 1] = sum(other);
            }
            tried(H, other, false, length + " bytes");
        }
        likeSums();
        Edge.of(41, "(METHODS; THE LIMIT;");
        changed(true, 0, 0);
        changed(false, 0, 2);
        changed(false, 0, 255);
        changed(false, 1, 10);
        changed(false, 1, 12);
        changed(false, 1, 17);
        changed(false, 1, 255);
        int[] bare = bare(16);
        tried(H, bare, true, "no cells, THE LIMIT at the end");
        tried(H, bare(17), false, "THE LIMIT behind the end");
        // Its length is as such a LIMIT would have it: what is behind the tape's end must not stand in for a register.
        int[] tooFew = Arrays.copyOf(bare(17), 24);
        for (int number = 1; number < 2000 && (number == 1 || tooFew[23] != 0); number++) {
            tooFew[2] = 0;
            tooFew[3] = number >> 8;
            tooFew[4] = number & 255;
            tooFew[23] = sum(tooFew);
        }
        Check.due("its last byte", tooFew[23], 0);
        CellSlide x = Check.heap(H);
        int[] more = Arrays.copyOf(tooFew, 26);
        more[24] = 3;
        more[25] = 232;
        Check.bytes(x, more);
        Check.due("end(24)", x.end(24), true);
        Check.due("on() of a LIMIT behind the end", x.on(), false);
        Check.due("has(1)", x.has(1), 11);
        tried(H, bare(15), false, "THE LIMIT without its word");
        Edge.of(41, "or without a heap.");
        CellSlide none = new CellSlide();
        Check.bytes(none, IMAGE);
        Check.due("on() without a heap", none.on(), false);
        Check.due("the tape went", none.end(1), false);
        Check.due("status(6)", none.status(6), 1);
        Check.bytes(none, bare(0));
        Check.due("on() of no words without a heap", none.on(), false);
        Check.due("has(0)", none.has(0), 0);
    }

    /** Nil registers and no words. */
    private static int[] bare(int limit) {
        int[] bytes = new int[27];
        bytes[1] = limit;
        for (int i = 2; i < 26; i += 3) {
            bytes[i] = 1;
            bytes[i + 1] = 3;
            bytes[i + 2] = 231;
        }
        bytes[26] = sum(bytes);
        return bytes;
    }

    private static void cellsOfOn() {
        Edge.of(41, "CELLS of its KINDS side by side up to the end,");
        changed(false, 28, 234);
        changed(false, 28, 231);
        changed(false, 28, 232);
        changed(false, 34, 233);
        changed(false, 26, 0);
        changed(false, 26, 1);
        changed(false, 26, 3);
        changed(false, 26, 255);
        changed(false, 27, 255);
        changed(false, 29, 2, 30, 3, 31, 233);
        changed(false, 32, 1, 33, 3, 34, 247);
        int[] bytes = new int[30];
        System.arraycopy(bare(15), 0, bytes, 0, 26);
        bytes[26] = 2;
        bytes[27] = 3;
        bytes[28] = 233;
        bytes[29] = sum(bytes);
        tried(H, bytes, false, "a cell that goes behind the end");
        tried("heap 16;", bytes, false, "a cell where there are no kinds");
        bytes = Arrays.copyOf(bytes, 33);
        bytes[1] = 14;
        bytes[29] = 1;
        bytes[30] = 3;
        bytes[31] = 231;
        bytes[32] = sum(bytes);
        tried(H, bytes, true, "a cell that does not");
        // One HEAD alone: of the KIND behind the last one, and of one whose FIELD lies behind the end.
        int[] head = Arrays.copyOf(bare(15), 30);
        head[26] = 2;
        head[27] = 3;
        for (int kind = 0; kind < 7; kind++) {
            head[28] = 232 + kind;
            head[29] = sum(head);
            tried(H, head, false, "a head of kind " + kind);
            tried("heap 16;", head, false, "a head of kind " + kind);
            tried("heap 16;kind n num;", head, false, "a head of kind " + kind);
        }
        Edge.of(41, "NUMBERS in num FIELDS,");
        changed(true, 36, 0, 37, 1);
        changed(true, 36, 7, 37, 207);
        changed(false, 36, 0, 37, 0);
        changed(false, 36, 7, 37, 208);
        changed(false, 36, 255, 37, 255);
        changed(false, 35, 1, 36, 3, 37, 231);
        changed(false, 35, 1, 36, 3, 37, 245);
        changed(false, 35, 3);
        Edge.of(41, "POINTERS, nil or from THE LIMIT on, in others;");
        changed(true, 31, 231);
        changed(true, 31, 243);
        changed(true, 31, 247);
        changed(false, 31, 242);
        changed(false, 31, 232);
        changed(false, 31, 230);
        changed(false, 31, 248);
        changed(false, 30, 0);
        changed(false, 30, 255);
        changed(false, 29, 0);
        changed(false, 29, 3);
        changed(true, 40, 231);
        changed(true, 40, 243);
        changed(false, 40, 242);
        changed(false, 40, 248);
        changed(false, 38, 0);
        changed(false, 38, 2);
        Edge.of(41, "in REGISTERS either),");
        for (int at : new int[] {2, 23}) {
            changed(true, at, 0, at + 1, 3, at + 2, 232);
            changed(true, at, 0, at + 1, 0, at + 2, 1);
            changed(true, at, 0, at + 1, 7, at + 2, 207);
            changed(false, at, 0, at + 1, 0, at + 2, 0);
            changed(false, at, 0, at + 1, 7, at + 2, 208);
            changed(false, at, 0, at + 1, 11, at + 2, 231);
            changed(true, at, 1, at + 1, 3, at + 2, 231);
            changed(true, at, 1, at + 1, 3, at + 2, 243);
            changed(true, at, 1, at + 1, 3, at + 2, 247);
            changed(false, at, 1, at + 1, 3, at + 2, 230);
            changed(false, at, 1, at + 1, 3, at + 2, 242);
            changed(false, at, 1, at + 1, 3, at + 2, 248);
            changed(false, at, 2, at + 1, 3, at + 2, 232);
            changed(false, at, 3, at + 1, 3, at + 2, 243);
            changed(false, at, 4, at + 1, 3, at + 2, 243);
        }
    }

    private static void status() {
        Edge.of(42, "How many were refused: 0 feed(), end(); 1 heap(), see(); 2 run(), remember(); 3 collect(), begin(), "
            + "step(), method(); 4 chance(); 5 undo(); 6 seed(), on().");
        CellSlide x = new CellSlide();
        int[] want = new int[7];
        statusIs(x, want);
        for (int n = 0; n < 80; n++) {
            x.feed(0, 0, 0, 0, 0);
        }
        Edge.none("feed", x.feed(0, 0, 0, 0, 0));
        want[0]++;
        statusIs(x, want);
        Check.due("end", x.end(-1), false);
        want[0]++;
        statusIs(x, want);
        Edge.none("heap()", x.heap());
        want[1]++;
        statusIs(x, want);
        Edge.none("see()", x.see());
        want[1]++;
        statusIs(x, want);
        Edge.none("run()", x.run());
        want[2]++;
        statusIs(x, want);
        Edge.none("remember()", x.remember());
        want[2]++;
        statusIs(x, want);
        Edge.none("collect()", x.collect());
        want[3]++;
        statusIs(x, want);
        Edge.none("begin()", x.begin());
        want[3]++;
        statusIs(x, want);
        Edge.none("step(1)", x.step(1));
        want[3]++;
        statusIs(x, want);
        Check.due("method(1)", x.method(1), false);
        want[3]++;
        statusIs(x, want);
        Edge.none("chance(1)", x.chance(1));
        want[4]++;
        statusIs(x, want);
        Check.due("undo()", x.undo(), false);
        want[5]++;
        statusIs(x, want);
        Check.due("seed(-1)", x.seed(-1), false);
        want[6]++;
        statusIs(x, want);
        Check.due("on()", x.on(), false);
        want[6]++;
        statusIs(x, want);
        // What tells NONE without being refused, and what is done, count nothing.
        Edge.none("image()", x.image());
        Edge.none("alike()", x.alike());
        Edge.none("then(NONE)", x.then(Check.NONE));
        Edge.none("steps(0)", x.steps(0));
        Check.text(x, H);
        Check.due("heap()", x.heap(), 8);
        Check.due("collect()", x.collect(), 14);
        Check.due("undo()", x.undo(), true);
        Check.bytes(x, IMAGE);
        Check.due("on()", x.on(), true);
        statusIs(x, want);
        Edge.of(42, "NONE for others.");
        for (int what : new int[] {7, -1, Integer.MAX_VALUE, Integer.MIN_VALUE}) {
            Edge.none("status(" + what + ")", x.status(what));
        }
    }

    private static void statusIs(CellSlide x, int[] want) {
        for (int what = 0; what < 7; what++) {
            Check.due("status(" + what + ")", x.status(what), want[what]);
        }
    }
}
