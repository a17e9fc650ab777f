import java.math.BigInteger;

/** Terms III and promises 30, 31, 36 to 38: runs, deeds, changes by the seed. */
final class EdgesOfRuns {
    private static final String[] OWN = ("heap kind cell set root method num ref weak nil new slide repeat "
        + "when").split(" ");
    // c 15 16 17 (to a, b) | b 18 19 20 (to a+1) | a 21 22 23; a to a, b to b+2, c holds 9, e to c
    private static final String R = "heap 24;kind p num,ref;kind w weak,ref;cell a p 5,nil;cell b p 7,a+1;"
        + "cell c w a,b;root 0 a;root 1 b+2;root 2 9;root 4 c;";
    // Every word is live, but for what a run lets go: d 0 .. 3, c 4 .. 7, b 8 .. 11, a 12 .. 15.
    private static final String FULL = "heap 16;kind t ref,ref,num;cell a t nil,nil,1;cell b t a,nil,2;"
        + "cell c t b,nil,3;cell d t c,nil,4;root 0 d;root 1 c;root 7 6;";

    private EdgesOfRuns() { }

    static void all() {
        acts();
        paths();
        faults();
        values();
        room();
        fails();
        firstFailure();
        deeds();
        draws();
        changes();
        run();
        failed();
        chance();
        undo();
        seed();
    }

    private static CellSlide r() {
        return Check.heap(R);
    }

    private static void acts() {
        Edge.of("III", "A RUN is a text: { ACT }.");
        Edge.runs(r(), 0, "");
        Edge.runs(r(), 0, " \n ");
        Edge.runs(r(), 1, "d = 1;");
        Edge.runs(r(), 3, " d\n=\n1 ; d=2;slide ; ");
        Edge.runFault(r(), 1, "d = 1;^;");
        Edge.of("III", "ACT: PATH = VALUE ; or slide ; (a whole COLLECTION) or repeat N [ { ACT } ] (0 .. 99 rounds) or "
            + "when TAKEN = TAKEN [ { ACT } ] (if both hold the same).");
        CellSlide x = r();
        Edge.runs(x, 1, "d = 1;");
        Edge.words(x, -5, "N1");
        Edge.runs(x, 2, "slide; slide;");
        Check.due("has(5)", x.has(5), 2);
        Edge.runs(x, 0, "repeat 0 [ d = 7; ]");
        Edge.words(x, -5, "N1");
        Edge.runs(x, 2, "repeat 1 [ d = d + 1; ]");
        Edge.words(x, -5, "N2");
        Edge.runs(x, 198, "repeat 99 [ d = d + 1; ]");
        Edge.words(x, -5, "N101");
        Edge.runs(x, 3, "repeat 3 []");
        // Rounds behind rounds, as deep as can be.
        Edge.runs(x, 2 + 2 + 6 + 12 + 36 + 36, "d = 0; repeat 1 [] repeat 2 [ repeat 3 [ repeat 2 [ repeat 3 [ d = d + 1; ] ] ] ]");
        Edge.words(x, -5, "N36");
        Edge.runs(x, 6, "d = 0; when 1 = 1 [ d = d + 1; ] when nil = nil [ d = d + 2; ] when a = a [ ]");
        Edge.words(x, -5, "N3");
        Edge.runs(x, 8, "when 1 = 2 [ d = 9; ] when nil = 0 [ d = 9; ] when 0 = f [ d = 9; ] when a = b [ d = 9; ]"
            + "when a = a + 1 [ d = 9; ] when 21 = a [ d = 9; ] when c = 8 [ d = 9; ] when a.1 = a [ d = 9; ]");
        Edge.words(x, -5, "N3");
        Edge.runs(x, 4, "when 9 = c [ d = 4; ] when a.0 = e.0.0 [ d = d + 1; ]");
        Edge.words(x, -5, "N5");
    }

    private static void paths() {
        Edge.of("III", "PATH: REGISTER { . N } (a .. h for 0 .. 7; 6 times . N at most; the FIELD of that number of the "
            + "CELL into which it points, wherever).");
        CellSlide x = r();
        Edge.runs(x, 8, "a=0;b=1;c=2;d=3;e=4;f=5;g=6;h=7;");
        Edge.words(x, -8, "N0 N1 N2 N3 N4 N5 N6 N7");
        Edge.runFault(x, 1, "^i = 1;");
        x = r();
        Edge.runs(x, 3, "a.1 = a; d = a.1.1.1.1.1.0; a.1.1.1.1.1.0 = 8;");
        Edge.words(x, -5, "N5");
        Edge.words(x, 21, "H0 N8 P21");
        Edge.runFault(x, 5, "d = a.1.1.1.1.1.1^.0;");
        Edge.runs(x, 4, "d = b.0; b = b - 1; f = b.0; b.0 = 3;");
        Edge.words(x, -5, "N7 P15 N7");
        Edge.words(x, 18, "H0 N3 P22");
        Edge.of("III", "VALUE: TAKEN; new KIND.");
        Edge.runs(x, 3, "d = 1; d = nil; d = new w;");
        Edge.words(x, -5, "P12");
        Edge.runFault(x, 1, "d = ^slide;");
        Edge.runFault(x, 1, "d = new p ^+ 1;");
        Edge.runFault(x, 1, "when ^new p = a []");
        Edge.runFault(x, 1, "when a = ^new p []");
        Edge.of("III", "TAKEN: N (0 .. 999); nil; PATH [ + N ] or PATH [ - N ] (0 .. 999).");
        x = r();
        Edge.runs(x, 4, "d = 0; f = 999; g = nil; h = c;");
        Edge.words(x, -5, "N0 P15 N999 nil N9");
        Edge.runs(x, 4, "d = c + 0; f = c + 990; g = c - 0; h = c - 999;");
        Edge.words(x, -5, "N9 P15 N999 N9 N-990");
        Edge.runFault(x, 1, "d = 100^0;");
        Edge.runFault(x, 1, "d = c + 100^0;");
        Edge.runFault(x, 1, "d = c - 999^9;");
        Edge.runFault(x, 1, "d = ^-1;");
        Edge.runFault(x, 1, "d = 1 ^+ 1;");
        Edge.runFault(x, 1, "d = nil ^+ 1;");
        Edge.runFault(x, 1, "d = c + 1 ^+ 1;");
        Edge.runFault(x, 1, "d = c + ^c;");
    }

    private static void faults() {
        CellSlide x = r();
        Edge.of("III", "Its FAULTS: 1 as in I (OWN WORDS, too);");
        String[] ends = {"a", "a.", "a.0", "a =", "a = 1", "a = nil", "a = b", "a = b.", "a = b.0", "a = b +", "a = b + 1",
            "a = b -", "a = b - 1", "a = new", "a = new p", "slide", "repeat", "repeat 3", "repeat 3 [", "when", "when a",
            "when a.0 + 1", "when a =", "when a = b", "when a = b [", "when a = b [ slide ;", "repeat 1 [ repeat 1 [ ]"};
        for (String end : ends) {
            Edge.runFault(x, 1, end + "^");
            Edge.runFault(x, 1, end + " \n^");
        }
        String[] marked = {"^?", "^;", "^]", "a = 1;^]", "repeat 1 []^]", "^1 = a;", "^aa = 1;", "^A = 1;", "^i = 1;",
            "^abcdefgh = 1;", "a^1 = 1;", "a ^b = 1;", "a.^b = 1;", "a. ^= 1;", "a = b.^;", "a = b + ^;", "when a. ^= 1 []", "a.0^b = 1;", "a.100^0 = 1;", "a ^+ 1 = 1;", "a = ^;",
            "a = ^ab;", "a = b ^c;", "^sliding;", "slide ^slide;", "slide^1;",
            "repeat^3 []", "repeat ^a []", "repeat 3^;", "repeat 3[]^;", "repeat 1[ a = 1^]", "^whena = b []",
            "when^1 = 1 []", "when a ^[", "when a = b ^= c []", "when a = b^;", "a = ^newp;", "a = new ^5;",
            "a = new abcdef^g;", "a = new repeat^s;", "a^\t= 1;", "a =^\r1;"};
        for (String one : marked) {
            Edge.runFault(x, 1, one);
        }
        for (String own : OWN) {
            Edge.runFault(x, 1, "a = new ^" + own + ";");
            if (!own.equals("nil") && !own.equals("new")) {
                Edge.runFault(x, 1, "a = ^" + own + ";");
            }
            if (!own.equals("slide") && !own.equals("repeat") && !own.equals("when")) {
                Edge.runFault(x, 1, "^" + own + " = 1;");
            }
        }
        Edge.of("III", "2 of repeat a number that can't be, at it;");
        Edge.runFault(x, 2, "repeat ^100 [");
        Edge.runFault(x, 2, "d = 1; repeat ^999");
        Edge.runFault(x, 1, "repeat 100^0 [");
        Edge.runs(x, 0, "repeat 000 [] ");
        Edge.runs(x, 99, "repeat 099 []");
        Edge.of("III", "3 a KIND that there is not, at it;");
        Edge.runFault(x, 3, "d = 1; d = new ^q;");
        Edge.runFault(x, 3, "d = new ^a");
        Edge.runFault(x, 3, "d = new ^P;");
        Edge.runFault(x, 3, "d = new ^pp;");
        Edge.of("III", "4 the 5th [ that is open at once, at it;");
        String four = "repeat 1 [ when 1 = 1 [ repeat 1 [ when 1 = 1 [ ";
        Edge.runFault(x, 4, four + "repeat 1 ^[");
        Edge.runFault(x, 4, four + "when 1 = 1 ^[ ] ] ] ] ]");
        Edge.runFault(x, 1, four + "repeat 1 ^]");
        Edge.runFault(x, 1, four + "^[");
        Edge.runs(x, 7, four + "] when 1 = 1 [ ] ] ] ] repeat 1 [ when 1 = 2 [ ] ]");
        Edge.of("III", "5 the 7th . of a PATH, at it.");
        Edge.runFault(x, 5, "a.0.0.0.0.0.0^.0 = 1;");
        Edge.runFault(x, 5, "a = a.0.0.0.0.0.0 ^.");
        Edge.runFault(x, 5, "when a.0.0.0.0.0.0^. ?");
        Edge.runFault(x, 5, "when 1 = a.0.0.0.0.0.0^.0 [");
        Check.due("nothing was done but for the good ones", x.has(8), 3);
    }

    private static void values() {
        Edge.of("III", "An ACT is: what is on the right of = is taken; then what is on the left holds it.");
        CellSlide x = r();
        Edge.runs(x, 1, "a = a.1;");
        Edge.words(x, -8, "nil");
        x = r();
        Edge.runs(x, 1, "b.1 = b;");
        Edge.words(x, 18, "H0 N7 P20");
        Edge.runs(x, 1, "b.1.1 = nil;");
        Edge.words(x, 18, "H0 N7 nil");
        // The COLLECTION that new makes moves what the left is then looked for by.
        x = Check.heap("heap 16;kind t ref,ref,num;cell z t nil,nil,9;cell a t nil,nil,1;cell b t a,nil,2;cell c t b,nil,3;"
            + "root 0 c;");
        Edge.runs(x, 1, "a.0.0.1 = new t;");
        Check.due("has(5)", x.has(5), 1);
        Edge.words(x, 0, "H0 nil nil N0 H0 P8 nil N3 H0 P12 nil N2 H0 nil P0 N1");
        Edge.of("III", "A NUMBER with + or - is the sum, held to -999 .. 999;");
        x = r();
        Edge.runs(x, 7, "d = 999; d = d + 0; f = d + 1; g = d + 999; h = d - 999; c = h - 999; c = c - 1;");
        Edge.words(x, -6, "N-999 N999 P15 N999 N999 N0");
        Edge.runs(x, 3, "d = c - 999; f = c + 999; g = c + 1;");
        Edge.words(x, -5, "N-999 P15 N0 N-998");
        Edge.of("III", "a POINTER goes so many WORDS up or down in its CELL.");
        x = r();
        Edge.runs(x, 5, "d = a + 2; f = d - 2; g = d - 0; h = b - 2; c = h + 2;");
        Edge.words(x, -6, "P20 P23 P15 P21 P23 P18");
    }

    private static void room() {
        Edge.of("III", "new makes a NEW CELL, its value points to the HEAD; without room for it there is a whole "
            + "COLLECTION first, by the METHOD.");
        CellSlide x = r();
        Edge.runs(x, 1, "d = new p;");
        Edge.words(x, -5, "P12");
        Check.due("has(5)", x.has(5), 0);
        for (String method : new String[] {"", "method 1;"}) {
            // 7 words are below THE LIMIT: two more of three have room as it is, a third one not.
            x = Check.heap("heap 16;kind p num,ref;cell a p 1,nil;cell b p 2,a;cell c p 3,nil;root 0 b;" + method);
            Edge.runs(x, 2, "c = new p; d = new p;");
            Check.due("has(1)", x.has(1), 1);
            Check.due("has(5)", x.has(5), 0);
            Edge.runs(x, 1, "e = new p;");
            Check.due("has(5)", x.has(5), 1);
            Check.due("kept(0, 2)", x.kept(0, 2), method.isEmpty() ? 0 : 1);
            Check.due("kept(0, 0)", x.kept(0, 0), 12);
            Check.due("has(1)", x.has(1), 1);
            Edge.words(x, -8, "P10 nil P7 P4 P1");
        }
        x = Check.heap("heap 16;kind t num,num,num;");
        Edge.runs(x, 8, "repeat 4 [ a = new t; ]");
        Check.due("exactly all the room", x.has(1), 0);
        Check.due("has(5)", x.has(5), 0);
    }

    private static void fails() {
        Edge.of("III", "It FAILS: 1 what is followed by . is no POINTER, or nil;");
        CellSlide x = r();
        Edge.fails(x, 0, 1, "^c.0 = 1;");
        Edge.fails(x, 0, 1, "^d.0 = 1;");
        Edge.fails(x, 0, 1, "^d = a.0.0;");
        Edge.fails(x, 0, 1, "^d = a.1.0;");
        Edge.fails(x, 0, 1, "^when d.0 = 1 []");
        Edge.of("III", "2 its CELL has no such FIELD;");
        Edge.fails(x, 0, 2, "^a.2 = 1;");
        Edge.fails(x, 0, 2, "^d = b.2;");
        Edge.fails(x, 0, 2, "^d = a.999;");
        Edge.fails(x, 0, 2, "^d = e.1.2.0;");
        Edge.runs(x, 2, "d = a.1; d = a.0;");
        Edge.of("III", "3 a num FIELD would hold a POINTER, another one a NUMBER;");
        Edge.fails(x, 0, 3, "^a.0 = a;");
        Edge.fails(x, 0, 3, "^a.0 = nil;");
        Edge.fails(x, 0, 3, "^a.0 = new p;");
        Edge.fails(x, 0, 3, "^a.1 = 0;");
        Edge.fails(x, 0, 3, "^e.0 = 0;");
        Edge.fails(x, 0, 3, "^e.1 = c;");
        Edge.runs(x, 5, "a.0 = 0; a.1 = nil; e.0 = b; e.1 = nil; a = 1;");
        Edge.of("III", "4 nil with + or -, or a POINTER would leave its CELL;");
        x = r();
        Edge.fails(x, 0, 4, "^f = d + 0;");
        Edge.fails(x, 0, 4, "^f = d - 0;");
        Edge.fails(x, 0, 4, "^f = a.1 + 1;");
        Edge.fails(x, 0, 4, "^f = a - 1;");
        Edge.fails(x, 0, 4, "^f = a + 3;");
        Edge.fails(x, 0, 4, "^f = b + 1;");
        Edge.fails(x, 0, 4, "^f = b - 3;");
        Edge.fails(x, 0, 4, "^f = e - 999;");
        Edge.fails(x, 0, 4, "^when 1 = a + 3 []");
        Edge.runs(x, 4, "f = a + 2; f = f - 2; f = b + 0; f = b - 2;");
        Edge.of("III", "5 there is no room for a NEW CELL even so;");
        x = Check.heap(FULL);
        Edge.fails(x, 1, 5, "f = 1; ^f = new t; f = 2;");
        Check.due("has(5)", x.has(5), 1);
        Edge.words(x, -3, "N1");
        Edge.runs(x, 3, "a = nil; a = new t; a.2 = 5;");
        Edge.words(x, 0, "H0 nil nil N5 H0 P8 nil N3");
        Edge.of("III", "6 it would be the 401st ACT of the RUN (each = ; each slide ; each round of repeat, each when is "
            + "one).");
        x = r();
        Edge.runs(x, 400, "a=b;".repeat(400));
        String all = "repeat 50 [ d = 1; slide; when 1 = 1 [ d = 2; ] when 1 = 2 [ d = 3; ] f = 1; g = 1; ]";
        Edge.runs(x, 400, all);
        Edge.fails(x, 400, 6, all + "^d = 4;");
        Edge.words(x, -5, "N2");
        Edge.fails(x, 400, 6, all + "^slide;");
        Edge.fails(x, 400, 6, all + "^when 1 = 1 []");
        Edge.fails(x, 400, 6, all + "^repeat 1 []");
        Edge.runs(x, 400, all + "repeat 0 []");
        Edge.fails(x, 400, 6, "^repeat 99 [ a=a;a=a;a=a; repeat 0 [] repeat 1 [ ] ]");
    }

    private static void firstFailure() {
        Edge.of("III", "What FAILS first ends the RUN there (6 is ahead of all others; the right of = ahead of the left; the "
            + "first TAKEN of when ahead of the second),");
        CellSlide x = r();
        Edge.fails(x, 1, 1, "d = 1; ^d.0 = 1; d = 2; slide;");
        Edge.words(x, -5, "N1");
        Check.due("has(5)", x.has(5), 0);
        String all = "repeat 80 [ d=1;d=1;d=1;d=1; ]";
        Edge.fails(x, 400, 6, all + "^d.0 = a.2;");
        Edge.fails(x, 400, 6, all + "^when d.0 = a.2 []");
        Edge.fails(x, 400, 6, all + "^d = new p;");
        Edge.fails(x, 0, 2, "^d.0 = a.2;");
        Edge.fails(x, 0, 4, "^d.0 = a + 3;");
        Edge.fails(x, 0, 1, "^a.2 = d.0;");
        Edge.fails(x, 0, 2, "^when a.2 = d.0 []");
        Edge.fails(x, 0, 1, "^when d.0 = a.2 []");
        Edge.fails(Check.heap(FULL), 0, 5, "^h.0 = new t;");
        Edge.fails(x, 1, 2, "repeat 3 [ ^a.2 = 1; ]");
        // Rounds that were left open are not gone on with by the next one.
        Edge.fails(x, 4, 2, "repeat 9 [ repeat 9 [ repeat 9 [ repeat 9 [ ^a.2 = 1; ] ] ] ]");
        Edge.runs(x, 2 + 6 + 24 + 240 + 1, "d = 0; repeat 2 [ repeat 3 [ repeat 4 [ repeat 5 [ d = d + 1; ] ] ] ]");
        Edge.words(x, -5, "N120");
        Edge.of("III", "what was done stays (a NEW CELL that nothing holds, too).");
        x = r();
        Edge.fails(x, 2, 3, "d = 7; a.0 = 8; ^a.1 = 9;");
        Edge.words(x, -5, "N7");
        Edge.words(x, 21, "H0 N8 nil");
        Edge.fails(x, 0, 3, "^a.0 = new p;");
        Check.due("has(1)", x.has(1), 12);
        Check.due("has(2)", x.has(2), 4);
        Edge.words(x, 12, "H0 N0 nil");
        Check.due("cell(0, 3)", x.cell(0, 3), 0);
        x = Check.heap(FULL);
        Edge.fails(x, 1, 5, "b = nil; ^c = new t;");
        Check.due("the collection, too", x.has(5), 1);
    }

    private static void deeds() {
        Edge.of("III", "DEEDS: a RUN; a COLLECTION at once; one that begins; STEPS; another METHOD; CHANGES by the seed.");
        CellSlide x = r();
        String[] states = new String[9];
        states[0] = words(x);
        Edge.runs(x, 1, "d = 1;");
        states[1] = words(x);
        Check.due("collect()", x.collect(), 15);
        states[2] = words(x);
        Check.due("begin()", x.begin(), 28);
        states[3] = words(x);
        Check.due("step(5)", x.step(5), 23);
        states[4] = words(x);
        Check.due("step(400)", x.step(400), 0);
        states[5] = words(x);
        Check.due("method(1)", x.method(1), true);
        states[6] = words(x);
        Check.due("chance(9)", x.chance(9) >= 0, true);
        states[7] = words(x);
        Edge.runs(x, 0, "");
        Check.due("has(8)", x.has(8), 8);
        Check.due("no deeds: seed", x.seed(3), true);
        Check.due("no deeds: remember", x.remember() >= 0, true);
        Check.due("no deeds: see", Edge.see(x, 0, 0, 0), 1);
        Check.due("no deeds: image", x.image() > 0, true);
        Edge.none("no deeds: what is refused", x.step(1));
        Edge.none("no deeds: what has a FAULT", Check.run(x, "?"));
        Check.due("has(8)", x.has(8), 8);
        for (int n = 7; n >= 0; n--) {
            Check.due("undo()", x.undo(), true);
            Edge.same("behind undo to " + n, words(x), states[n]);
            Check.due("has(8)", x.has(8), n);
        }
        Edge.of("III", "The last 20 can be undone.");
        x = r();
        for (int n = 1; n <= 21; n++) {
            Edge.runs(x, 1, "d = " + n + ";");
            Check.due("has(8)", x.has(8), Math.min(n, 20));
        }
        for (int n = 20; n >= 1; n--) {
            Check.due("undo()", x.undo(), true);
            Check.holds(x, -5, 0, n);
        }
        Check.due("the 21st", x.undo(), false);
        Edge.words(x, -5, "N1");
    }

    /** What deeds change: words, the limit, the method, the collection that goes on, what is kept. */
    private static String words(CellSlide x) {
        StringBuilder text = new StringBuilder();
        for (int a = -8; a < x.has(0); a++) {
            text.append(x.word(a, 0)).append(':').append(x.word(a, 1)).append(' ');
        }
        for (int what = 0; what < 7; what++) {
            text.append(x.has(what)).append(' ').append(x.stage(what)).append(' ');
        }
        return text.toString();
    }

    // ---- the seed

    /** The seeds behind the first DRAWS; a DRAW is that by 64, modulo what is asked. */
    private static int[] seedsFrom(int seed, int n) {
        int[] all = new int[n];
        BigInteger x = BigInteger.valueOf(seed);
        for (int i = 0; i < n; i++) {
            x = x.multiply(BigInteger.valueOf(1103515245)).add(BigInteger.valueOf(12345)).mod(BigInteger.TWO.pow(31));
            all[i] = x.intValueExact();
        }
        return all;
    }

    /** The first seed whose DRAWS of 8, of 4 and, in pairs of m and what is drawn, of more are these. */
    private static int seedFor(int r, int how, int... more) {
        for (int seed = 0; seed < 100000; seed++) {
            int[] s = seedsFrom(seed, 2 + more.length / 2);
            boolean fits = s[0] / 64 % 8 == r && s[1] / 64 % 4 == how;
            for (int i = 0; i < more.length; i += 2) {
                fits = fits && s[2 + i / 2] / 64 % more[i] == more[i + 1];
            }
            if (fits) {
                return seed;
            }
        }
        Check.due("there is such a seed", false, true);
        return 0;
    }

    /** One CHANGE of a new heap: the seed must have gone on by so many DRAWS. */
    private static CellSlide changed(String heap, int seed, int draws) {
        CellSlide x = Check.heap(heap);
        CellSlide y = Check.heap(heap);
        Check.due("seed(" + seed + ")", x.seed(seed), true);
        Check.due("chance(1)", x.chance(1) >= 0, true);
        int[] image = Edge.imageOf(x);
        Check.bytes(y, image);
        Check.due("on()", y.on(), true);
        Check.due("seed()", y.seed(seedsFrom(seed, draws)[draws - 1]), true);
        // Behind as many DRAWS as are due both go on alike; the first one is undone for what is asked.
        Check.due("chance(20)", x.chance(20), y.chance(20));
        int[] one = Edge.imageOf(x);
        int[] other = Edge.imageOf(y);
        Check.due("the seed has gone on by " + draws, java.util.Arrays.equals(one, other), true);
        Check.due("undo()", x.undo(), true);
        return x;
    }

    private static void draws() {
        Edge.of("III", "A DRAW of m: x (the seed) becomes (1103515245 x + 12345) mod 2 to the 31; floor(x / 64) mod m.");
        Check.due("worked out by hand: from 1", seedsFrom(1, 1)[0], 1103527590);
        Check.due("worked out by hand: from 0", seedsFrom(0, 1)[0], 12345);
        for (int seed : new int[] {0, 1, 2, 63, 64, 65, 1 << 16, 1 << 30, Integer.MAX_VALUE - 1, Integer.MAX_VALUE}) {
            for (int more = 0; more < 40; more++) {
                int from = seed > Integer.MAX_VALUE - 40 ? seed - more : seed + more;
                CellSlide x = Check.heap("heap 16;kind a num;kind b num;kind c num;kind d num;kind e num;root 0 5;root 1 5;"
                    + "root 2 5;root 3 5;root 4 5;root 5 5;root 6 5;root 7 5;");
                int[] s = seedsFrom(from, 3);
                int r = s[0] / 64 % 8 - 8;
                Check.due("seed", x.seed(from), true);
                Check.due("chance(1)", x.chance(1), 0);
                for (int a = -8; a < 0; a++) {
                    int how = a == r ? s[1] / 64 % 4 : 1;
                    Check.holds(x, a, how == 0 || how == 3 ? 1 : 0, how == 0 ? 14 : how == 3 ? -1 : 5);
                }
                Check.due("has(1)", x.has(1), s[1] / 64 % 4 == 0 ? 14 : 16);
                if (s[1] / 64 % 4 == 0) {
                    Check.holds(x, 14, 2, s[2] / 64 % 5);
                }
            }
        }
    }

    // b 11 12 13 (to a+1, a) | a 14 15; registers: a+1, b, b+2, 7, nil, a, b+1, 9
    private static final String C = "heap 16;kind p num;kind q weak,ref;cell a p 3;cell b q a+1,a;root 0 a+1;root 1 b;"
        + "root 2 b+2;root 3 7;root 5 a;root 6 b+1;root 7 9;";
    private static final String REGISTERS = "P15 P11 P13 N7 nil P14 P12 N9";
    private static final String WORDS = "N0 H1 P15 P14 H0 N3";

    private static void holdsAfter(CellSlide x, int register, String value, String words) {
        String[] registers = REGISTERS.split(" ");
        if (register >= 0) {
            registers[register] = value;
        }
        Edge.words(x, -8, String.join(" ", registers));
        Edge.words(x, 10, words);
    }

    private static void changes() {
        Edge.of("III", "A CHANGE: a DRAW of 8 is REGISTER r, a DRAW of 4: by 0 r points to a NEW CELL of a KIND, a DRAW of "
            + "those there are");
        holdsAfter(changed(C, seedFor(0, 0, 2, 0), 3), 0, "P9", "N0 H1 P15 P14 H0 N3");
        CellSlide x = changed(C, seedFor(7, 0, 2, 1), 3);
        holdsAfter(x, 7, "P8", "nil H1 P15 P14 H0 N3");
        Check.due("has(1)", x.has(1), 8);
        holdsAfter(changed(C, seedFor(3, 0, 2, 0), 3), 3, "P9", "N0 H1 P15 P14 H0 N3");
        Edge.of("III", "(as in a RUN; without room even so all stays but for the COLLECTION);");
        x = Check.heap(FULL);
        String before = Edge.all(x);
        Check.due("seed", x.seed(seedFor(0, 0)), true);
        Check.due("chance(1): a collection", x.chance(1), 1);
        Check.due("has(5)", x.has(5), 1);
        Edge.words(x, -8, "P0 P4 nil nil nil nil nil N6");
        Edge.words(x, 0, "H0 P4 nil N4 H0 P8 nil N3 H0 P12 nil N2 H0 nil nil N1");
        Check.due("undo()", x.undo(), true);
        Edge.same("undone", Edge.all(x), before);
        // Register 0 alone held d: behind the change it points to the new cell where d was.
        String room = FULL + "set d.2 7;root 0 5;";
        x = Check.heap(room);
        Check.due("seed", x.seed(seedFor(0, 0)), true);
        Check.due("chance(1): a collection", x.chance(1), 1);
        Edge.words(x, -8, "P0 P4 nil nil nil nil nil N6");
        Edge.words(x, 0, "H0 nil nil N0 H0 P8 nil N3");
        Edge.of("III", "by 1 and 2 a DRAW of 8 is REGISTER s; if that holds a POINTER, not nil, a DRAW of the FIELDS of its "
            + "CELL is one of these:");
        for (int how = 1; how <= 2; how++) {
            holdsAfter(changed(C, seedFor(0, how, 8, 3), 3), -1, "", WORDS);
            holdsAfter(changed(C, seedFor(0, how, 8, 4), 3), -1, "", WORDS);
            holdsAfter(changed(C, seedFor(0, how, 8, 7), 3), -1, "", WORDS);
        }
        holdsAfter(changed(C, seedFor(4, 2, 8, 6, 2, 0), 4), 4, "P15", WORDS);
        holdsAfter(changed(C, seedFor(4, 2, 8, 1, 2, 1), 4), 4, "P14", WORDS);
        holdsAfter(changed(C, seedFor(3, 2, 8, 1, 2, 0), 4), 3, "P15", WORDS);
        Edge.of("III", "by 1 a num FIELD holds a DRAW of 1000, another one what r holds, unless that is a NUMBER;");
        int seed = seedFor(0, 1, 8, 0);
        int drawn = seedsFrom(seed, 5)[4] / 64 % 1000;
        holdsAfter(changed(C, seed, 5), -1, "", "N0 H1 P15 P14 H0 N" + drawn);
        seed = seedFor(3, 1, 8, 5);
        drawn = seedsFrom(seed, 5)[4] / 64 % 1000;
        holdsAfter(changed(C, seed, 5), -1, "", "N0 H1 P15 P14 H0 N" + drawn);
        holdsAfter(changed(C, seedFor(6, 1, 8, 1, 2, 0), 4), -1, "", "N0 H1 P12 P14 H0 N3");
        holdsAfter(changed(C, seedFor(2, 1, 8, 6, 2, 1), 4), -1, "", "N0 H1 P15 P13 H0 N3");
        holdsAfter(changed(C, seedFor(4, 1, 8, 1, 2, 1), 4), -1, "", "N0 H1 P15 nil H0 N3");
        holdsAfter(changed(C, seedFor(3, 1, 8, 2, 2, 1), 4), -1, "", WORDS);
        holdsAfter(changed(C, seedFor(7, 1, 8, 1, 2, 0), 4), -1, "", WORDS);
        Edge.of("III", "by 2 r holds what the FIELD does;");
        holdsAfter(changed(C, seedFor(4, 2, 8, 0), 4), 4, "N3", WORDS);
        holdsAfter(changed(C, seedFor(1, 2, 8, 2, 2, 0), 4), 1, "P15", WORDS);
        holdsAfter(changed(C, seedFor(7, 2, 8, 6, 2, 1), 4), 7, "P14", WORDS);
        holdsAfter(changed(C + "set b.1 nil;", seedFor(3, 2, 8, 6, 2, 1), 4), 3, "nil", "N0 H1 P15 nil H0 N3");
        Edge.of("III", "by 3 r, if it holds a POINTER, not nil, points to a WORD of its CELL, a DRAW of those, else it holds "
            + "nil.");
        for (int word = 0; word < 3; word++) {
            holdsAfter(changed(C, seedFor(2, 3, 3, word), 3), 2, "P" + (11 + word), WORDS);
            holdsAfter(changed(C, seedFor(1, 3, 3, word), 3), 1, "P" + (11 + word), WORDS);
        }
        holdsAfter(changed(C, seedFor(0, 3, 2, 0), 3), 0, "P14", WORDS);
        holdsAfter(changed(C, seedFor(5, 3, 2, 1), 3), 5, "P15", WORDS);
        holdsAfter(changed(C, seedFor(3, 3), 2), 3, "nil", WORDS);
        holdsAfter(changed(C, seedFor(7, 3), 2), 7, "nil", WORDS);
        holdsAfter(changed(C, seedFor(4, 3), 2), 4, "nil", WORDS);
    }

    // ---- promises

    private static void run() {
        Edge.of(30, "The tape (it goes) is a RUN: how many ACTS were done (rounds and whens as they begin; none that "
            + "FAILED);");
        CellSlide x = r();
        Edge.runs(x, 0, "");
        Edge.runs(x, 2, "d = 1; d = 2;");
        Check.due("the tape went", x.end(1), false);
        Edge.runs(x, 7, "repeat 2 [ d = 3; when 1 = 2 [ d = 4; ] ] d = 4;");
        Edge.fails(x, 1, 1, "repeat 2 [ ^d.0 = 1; ]");
        Edge.fails(x, 2, 1, "repeat 2 [ when 1 = 1 [ ^d.0 = 1; ] ]");
        Edge.fails(x, 1, 1, "repeat 2 [ ^when 1 = d.0 [ d = 1; ] ]");
        Edge.of(30, "NONE, refused (2), with a FAULT (all stays), or while a COLLECTION goes on, or without a heap (the tape "
            + "goes, but is not read).");
        String before = Edge.all(x);
        Edge.none("run() with a FAULT behind a good ACT", Check.run(x, "a = 1; slide; ?"));
        Edge.same("all stays", Edge.all(x), before);
        Check.due("status(2)", x.status(2), 1);
        Check.due("fault(1)", x.fault(1), 14);
        Check.due("the tape went", x.end(1), false);
        Check.due("begin()", x.begin() > 0, true);
        before = Edge.all(x);
        Edge.none("run() while one goes on", Check.run(x, "a = 1;"));
        Edge.same("all stays", Edge.all(x), before);
        Edge.none("run() while one goes on", Check.run(x, "?"));
        Check.due("status(2)", x.status(2), 3);
        Check.due("not read", x.fault(1), 14);
        Check.due("the tape went", x.end(1), false);
        x = new CellSlide();
        Edge.none("run() without a heap", Check.run(x, "?"));
        Check.due("status(2)", x.status(2), 1);
        Check.due("not read", x.fault(0), 0);
        Check.due("the tape went", x.end(1), false);
    }

    private static void failed() {
        Edge.of(31, "Of the latest RUN that was done: how it FAILED (what 0; 0 without), the place of the first byte of that "
            + "ACT (1; of a round that of its repeat; NONE without).");
        CellSlide x = new CellSlide();
        failedIs(x, 0, Check.NONE);
        x = r();
        failedIs(x, 0, Check.NONE);
        Edge.fails(x, 1, 2, "d = 1; \n^a.2 = 1;");
        Edge.none("run() with a FAULT", Check.run(x, "?"));
        failedIs(x, 2, 8);
        Edge.fails(x, 400, 6, "d=1; d=1; repeat 99 [ d=1;d=1;d=1; ] ^repeat 2 [ repeat 1 [] ]");
        Edge.fails(x, 400, 6, "d=1;repeat 99 [ d=1;d=1;d=1; ] repeat 2 [ ^repeat 1 [] ]");
        Edge.fails(x, 400, 6, "d=1;d=1;repeat 99 [ d=1;d=1;d=1; ] repeat 2 [ repeat 1 [] ^when d.0 = 1 [] ]");
        Edge.runs(x, 1, "d = 1;");
        failedIs(x, 0, Check.NONE);
        Edge.of(31, "NONE for another what.");
        for (int what : new int[] {2, -1, Integer.MAX_VALUE, Integer.MIN_VALUE}) {
            Edge.none("failed(" + what + ")", x.failed(what));
            Edge.none("failed(" + what + ") without a heap", new CellSlide().failed(what));
        }
        Edge.of(31, "(Undone or not.)");
        Edge.fails(x, 0, 1, " ^d.0 = 1;");
        Check.due("undo()", x.undo(), true);
        failedIs(x, 1, 1);
        Check.due("undo()", x.undo(), true);
        failedIs(x, 1, 1);
    }

    private static void failedIs(CellSlide x, int how, int place) {
        Check.due("failed(0)", x.failed(0), how);
        Check.due("failed(1)", x.failed(1), place);
    }

    private static void chance() {
        Edge.of(36, "n CHANGES by the seed (1 .. 50): how many COLLECTIONS there were in them;");
        String heap = "heap 16;kind p num,ref;kind q ref,ref,ref;";
        CellSlide x = Check.heap(heap);
        CellSlide y = Check.heap(heap);
        int all = 0;
        for (int n = 0; n < 50; n++) {
            all += y.chance(1);
        }
        Check.due("chance(50)", x.chance(50), all);
        Check.due("there were some", all > 0, true);
        Check.due("has(5)", x.has(5), all);
        Check.due("alike in the end", java.util.Arrays.equals(Edge.imageOf(x), Edge.imageOf(y)), true);
        Check.due("has(8): one deed", x.has(8), 1);
        Check.due("chance(1) of one with room", Check.heap(heap).chance(1), 0);
        Edge.of(36, "NONE, refused (4), when it can't be, a COLLECTION goes on, there are no KINDS, or without a heap.");
        String before = Edge.all(x);
        for (int n : new int[] {0, -1, 51, Integer.MAX_VALUE, Integer.MIN_VALUE}) {
            Edge.none("chance(" + n + ")", x.chance(n));
        }
        Check.due("status(4)", x.status(4), 5);
        Edge.same("all stays", Edge.all(x), before);
        Check.due("begin()", x.begin() > 0, true);
        Edge.none("chance(1) while one goes on", x.chance(1));
        Check.due("status(4)", x.status(4), 6);
        Check.due("step(400)", x.step(400), 0);
        Check.due("collect()", y.collect(), x.has(1));
        Check.due("the seed did not go on", x.chance(50), y.chance(50));
        Check.due("alike", java.util.Arrays.equals(Edge.imageOf(x), Edge.imageOf(y)), true);
        CellSlide none = Check.heap("heap 16;root 0 1;");
        Edge.none("chance(1) without KINDS", none.chance(1));
        Check.due("has(8)", none.has(8), 0);
        Check.due("status(4)", none.status(4), 1);
        none = new CellSlide();
        Edge.none("chance(1) without a heap", none.chance(1));
        Check.due("status(4)", none.status(4), 1);
    }

    private static void undo() {
        Edge.of(37, "The latest DEED is undone (the seed, what is REMEMBERED, SEEN stay): true;");
        CellSlide x = Check.heap(C);
        CellSlide y = Check.heap(C);
        Check.due("chance(9)", x.chance(9), y.chance(9));
        Check.due("undo()", x.undo(), true);
        Edge.words(x, -8, REGISTERS);
        Edge.words(x, 10, WORDS);
        Check.due("undo()", y.undo(), true);
        Check.due("seed(1)", y.seed(1), true);
        Check.due("the seed is not as it was", x.chance(50) + y.chance(50) >= 0
            && !java.util.Arrays.equals(Edge.imageOf(x), Edge.imageOf(y)), true);
        x = r();
        Edge.runs(x, 1, "d = 1;");
        Check.due("remember()", x.remember(), 3);
        Check.due("see()", Edge.see(x, -5, 0, 1, -6, 0, 9), 2);
        Check.due("alike()", x.alike(), 1);
        Check.due("then(NONE)", x.then(Check.NONE), 29);
        Check.due("undo()", x.undo(), true);
        Check.due("has(9)", x.has(9), 1);
        Check.due("has(7)", x.has(7), 2);
        Check.due("alike() to what was remembered behind the deed", x.alike(), 0);
        Check.due("then(NONE) by what was seen behind the deed", x.then(Check.NONE), 0);
        Check.due("begin()", x.begin(), 28);
        Check.due("step(11)", x.step(11), 17);
        Check.due("undo() while one goes on", x.undo(), true);
        Check.due("stage(2)", x.stage(2), 0);
        Check.due("undo() of what begins", x.undo(), true);
        Check.due("stage(2)", x.stage(2), Check.NOTHING);
        Check.due("collect()", x.collect(), 15);
        Check.due("has(5)", x.has(5), 1);
        Check.due("undo()", x.undo(), true);
        Check.due("has(5)", x.has(5), 0);
        Check.due("has(6)", x.has(6), 0);
        undoneIntoTheMiddle();
        // What is KEPT goes back, also where the oldest one had to go.
        x = r();
        Edge.runs(x, 1, "slide;");
        Edge.runs(x, 21, "a = nil; b = nil; e = nil; repeat 9 [ slide; ]");
        Edge.runs(x, 20, "repeat 10 [ slide; ]");
        Check.due("has(6)", x.has(6), 20);
        Check.due("kept(0, 0)", x.kept(0, 0), 9);
        Check.due("collect()", x.collect(), 24);
        Check.due("kept(0, 0), the oldest gone", x.kept(0, 0), 0);
        Check.due("undo()", x.undo(), true);
        Check.due("kept(0, 0)", x.kept(0, 0), 9);
        Check.due("has(5)", x.has(5), 20);
        x = r();
        Edge.of(37, "false, refused (5), when none can be.");
        Check.due("undo()", x.undo(), false);
        Check.due("undo()", x.undo(), false);
        Check.due("status(5)", x.status(5), 2);
        x = new CellSlide();
        Check.due("undo() without a heap", x.undo(), false);
        Check.due("status(5)", x.status(5), 1);
    }

    /** Behind others that had other words to slide it goes on as it began. */
    private static void undoneIntoTheMiddle() {
        for (int method = 0; method < 2; method++) {
            // By METHOD 1 there are three blocks: c | d, dead | b | z, dead | a; c's weak field points to z.
            CellSlide x = Check.heap("heap 30;kind p num,ref;kind w weak,ref;cell a p 5,nil;cell z p 1,nil;cell b p 7,a+1;"
                + "cell d p 2,nil;cell c w z,b;root 0 a;root 1 b+2;root 2 9;root 4 c;method " + method + ";");
            Check.due("begin()", x.begin(), method == 0 ? 28 : 22);
            Check.due("step(3)", x.step(3), method == 0 ? 25 : 19);
            String middle = words(x);
            Check.due("step(400)", x.step(400), 0);
            String end = words(x);
            Edge.runs(x, 5, "slide; a = nil; b = nil; e = new w; slide;");
            Check.due("collect()", x.collect(), 27);
            Check.due("method()", x.method(1 - method), true);
            Check.due("begin()", x.begin(), method == 0 ? 14 : 16);
            Check.due("step(2)", x.step(2), method == 0 ? 12 : 14);
            for (int n = 0; n < 6; n++) {
                Check.due("undo()", x.undo(), true);
            }
            Edge.same("the middle", words(x), middle);
            Check.due("step(400)", x.step(400), 0);
            Edge.same("the end", words(x), end);
            Check.due("kept(0, 0)", x.kept(0, 0), 9);
            Check.due("kept(0, 1)", x.kept(0, 1), 6);
            Check.due("kept(0, 3)", x.kept(0, 3), 1);
        }
    }

    private static void seed() {
        Edge.of(38, "The seed: true;");
        CellSlide x = Check.heap(C);
        Check.due("seed(0)", x.seed(0), true);
        Check.due("seed(most)", x.seed(Integer.MAX_VALUE), true);
        Check.due("seed()", x.seed(seedFor(4, 2, 8, 0)), true);
        Check.due("chance(1)", x.chance(1), 0);
        Edge.words(x, -4, "N3");
        Check.due("without a heap", new CellSlide().seed(7), true);
        Edge.of(38, "false, refused (6), when it is below 0.");
        x = Check.heap(C);
        Check.due("seed()", x.seed(seedFor(4, 2, 8, 0)), true);
        Check.due("seed(-1)", x.seed(-1), false);
        Check.due("seed(least)", x.seed(Integer.MIN_VALUE), false);
        Check.due("status(6)", x.status(6), 2);
        Check.due("chance(1) by the seed that stays", x.chance(1), 0);
        Edge.words(x, -4, "N3");
        Edge.of(38, "(It is 1 at first.)");
        x = Check.heap(C);
        CellSlide y = Check.heap(C);
        Check.due("seed(1)", y.seed(1), true);
        Check.due("chance(50)", x.chance(50), y.chance(50));
        Check.due("alike", java.util.Arrays.equals(Edge.imageOf(x), Edge.imageOf(y)), true);
    }
}
