/** Promises 30 and 31: run, failed. */
final class RunTest {
    private static final String HEAP = "heap 24;kind p num,ref;kind w weak,ref;"
        + "cell a p 5,nil;cell b p 7,a+1;cell c w a,b;root 0 a;root 1 b+2;root 2 9;root 4 c;";

    public static void main(String[] args) {
        faults();
        oneBehindTheOther();
        notRead();
        values();
        paths();
        fails();
        counts();
        rooms();
        Check.end();
    }

    private static void faults() {
        CellSlide x = Check.heap(HEAP);
        Check.runFault(x, "a", 1, 1);
        Check.runFault(x, " aa = 1;", 1, 1);
        Check.runFault(x, "i = 1;", 1, 0);
        Check.runFault(x, "A = 1;", 1, 0);
        Check.runFault(x, "nil = 1;", 1, 0);
        Check.runFault(x, "new = 1;", 1, 0);
        Check.runFault(x, "1 = a;", 1, 0);
        Check.runFault(x, "abcdefgh = 1;", 1, 0);
        Check.runFault(x, ";", 1, 0);
        Check.runFault(x, "]", 1, 0);
        Check.runFault(x, "a = 1;]", 1, 6);
        Check.runFault(x, "a = 1", 1, 5);
        Check.runFault(x, "a = 1 ", 1, 6);
        Check.runFault(x, "a = ;", 1, 4);
        Check.runFault(x, "a = -1;", 1, 4);
        Check.runFault(x, "a + 1 = 2;", 1, 2);
        Check.runFault(x, "a = 1 + 1;", 1, 6);
        Check.runFault(x, "a = nil + 1;", 1, 8);
        Check.runFault(x, "a = b + b;", 1, 8);
        Check.runFault(x, "a = b + 1 + 1;", 1, 10);
        Check.runFault(x, "a = b +;", 1, 7);
        Check.runFault(x, "a = 1000;", 1, 7);
        Check.runFault(x, "a = b + 1000;", 1, 11);
        Check.runFault(x, "a.1000 = 1;", 1, 5);
        Check.runFault(x, "a. = 1;", 1, 3);
        Check.runFault(x, "a.x = 1;", 1, 2);
        Check.runFault(x, "a.0.1.0.1.0.1.0 = 1;", 5, 13);
        Check.runFault(x, "a.0.1.0.1.0.1.", 5, 13);
        Check.runFault(x, "a = b.0.1.0.1.0.1.;", 5, 17);
        Check.runFault(x, "a = new;", 1, 7);
        Check.runFault(x, "a = new 5;", 1, 8);
        Check.runFault(x, "a = new q;", 3, 8);
        Check.runFault(x, "a = new a;", 3, 8);
        Check.runFault(x, "a = new p + 1;", 1, 10);
        Check.runFault(x, "a = newp;", 1, 4);
        Check.runFault(x, "a = new abcdefg;", 1, 14);
        Check.runFault(x, "a = slide;", 1, 4);
        Check.runFault(x, "slide", 1, 5);
        Check.runFault(x, "slide slide;", 1, 6);
        Check.runFault(x, "sliding;", 1, 0);
        for (String own : ("heap kind cell set root method num ref weak nil new slide repeat when").split(" ")) {
            Check.runFault(x, "a = new " + own + ";", 1, 8);
        }
        Check.runFault(x, "repeat [", 1, 7);
        Check.runFault(x, "repeat 100 [", 2, 7);
        Check.runFault(x, "repeat 1000 [", 1, 10);
        Check.runFault(x, "repeat3[]", 1, 6);
        Check.runFault(x, "repeat 3 ", 1, 9);
        Check.runFault(x, "repeat 3;", 1, 8);
        Check.runFault(x, "repeat 3[", 1, 9);
        Check.runFault(x, "repeat 3[];", 1, 10);
        Check.runFault(x, "repeat 3[a = 1]", 1, 14);
        Check.runFault(x, "when a = b", 1, 10);
        Check.runFault(x, "when a [", 1, 7);
        Check.runFault(x, "when a = new p []", 1, 9);
        Check.runFault(x, "when new p = a []", 1, 5);
        Check.runFault(x, "when a = b = c []", 1, 11);
        Check.runFault(x, "whena = b []", 1, 0);
        String four = "repeat 1[when a=a[repeat 1[when 1=1[";
        Check.runFault(x, four + "repeat 1[", 4, 44);
        Check.runFault(x, four + "when 1=1 [", 4, 45);
        Check.runFault(x, four + "repeat 1]", 1, 44);
        Check.runFault(x, four + "]]]", 1, 39);
        Check.runFault(x, four + "]]]]]", 1, 40);
        Check.due("all stays", x.word(-8, 1), 21);
        Check.runs(x, four + "]when 1=0[]]]]repeat 0[]", 5, 0, -1);
    }

    /** What one text left behind is not there for the next. */
    private static void oneBehindTheOther() {
        CellSlide x = Check.heap(HEAP);
        Check.runs(x, "a=b;", 1, 0, -1);
        Check.runs(x, "   a=b;", 1, 0, -1);
        Check.runFault(x, "repeat 1[repeat 1[", 1, 18);
        Check.runs(x, "a=b;", 1, 0, -1);
        Check.due("fault(1)", x.fault(1), Check.NONE);
        Check.runFault(x, "]", 1, 0);
        Check.text(x, HEAP);
        Check.due("heap()", x.heap(), 10);
        Check.due("fault(0)", x.fault(0), 0);
        Check.due("fault(1)", x.fault(1), Check.NONE);
        Check.text(x, HEAP + "?");
        Check.due("heap()", x.heap(), Check.NONE);
        Check.text(x, "      " + HEAP);
        Check.due("heap()", x.heap(), 10);
        Check.due("fault(1)", x.fault(1), Check.NONE);
    }

    private static void notRead() {
        CellSlide x = new CellSlide();
        Check.due("run() without a heap", Check.run(x, "?"), Check.NONE);
        Check.due("fault(0)", x.fault(0), 0);
        Check.due("status(2)", x.status(2), 1);
        Check.text(x, HEAP);
        Check.due("heap()", x.heap(), 10);
        Check.runs(x, "a.2 = 1;", 0, 2, 0);
        x.begin();
        Check.due("run() while a collection goes on", Check.run(x, "?"), Check.NONE);
        Check.due("the tape went", x.feed(0, 0, 0, 0, 0), 20);
        Check.due("end(0)", x.end(0), true);
        Check.due("fault(0)", x.fault(0), 0);
        Check.due("failed(0)", x.failed(0), 2);
        Check.due("failed(2)", x.failed(2), Check.NONE);
        Check.due("failed(-1)", x.failed(-1), Check.NONE);
        Check.due("status(2)", x.status(2), 2);
    }

    private static void values() {
        CellSlide x = Check.heap(HEAP);
        Check.runs(x, "", 0, 0, -1);
        Check.due("an empty run is a deed", x.has(8), 1);
        Check.runs(x, "c = c + 999; d = 1; d = d - 999; d = d - 999; f = c - 9;", 5, 0, -1);
        Check.holds(x, -6, 0, 999);
        Check.holds(x, -5, 0, -999);
        Check.holds(x, -3, 0, 990);
        Check.runs(x, "f = a + 2; g = f - 1; h = b - 2; d = h + 0; a.0 = c; b.1 = nil;", 6, 0, -1);
        Check.holds(x, -3, 1, 23);
        Check.holds(x, -2, 1, 22);
        Check.holds(x, -1, 1, 18);
        Check.holds(x, -5, 1, 18);
        Check.holds(x, 22, 0, 999);
        Check.holds(x, 20, 1, -1);
        Check.runs(x, "e = new w; e.1 = e; e.0 = a + 1; d = e.0.1;", 4, 0, -1);
        Check.due("has(1)", x.has(1), 12);
        Check.holds(x, -4, 1, 12);
        Check.holds(x, 13, 1, 22);
        Check.holds(x, 14, 1, 12);
        Check.holds(x, -5, 1, -1);
    }

    private static void paths() {
        CellSlide x = Check.heap(HEAP);
        Check.runs(x, "f = e.1.1.0; g = e . 0 . 0 ; h = b.0;", 3, 0, -1);
        Check.holds(x, -3, 0, 5);
        Check.holds(x, -2, 0, 5);
        Check.holds(x, -1, 0, 7);
        Check.runs(x, "a.1 = a; a.1.1.1.1.1.0 = 44; d = a.1.1.1.1.1.1;", 3, 0, -1);
        Check.holds(x, 22, 0, 44);
        Check.holds(x, -5, 1, 21);
        Check.runs(x, "when a = d [ c = 1; ] when a = b [ c = 2; ] when nil = h.0 [] ", 3, 1, 44);
        Check.holds(x, -6, 0, 1);
        Check.runs(x, "when 1 = c [ when nil = nil [ c = 3; ] ] when 0 = nil [ c = 4; ]", 4, 0, -1);
        Check.holds(x, -6, 0, 3);
        Check.runs(x, "a = a + 1; when a = d [ c = 5; ] when a - 1 = d [ c = 6; ]", 4, 0, -1);
        Check.holds(x, -6, 0, 6);
    }

    private static void fails() {
        CellSlide x = Check.heap(HEAP);
        Check.runs(x, "c.0 = 1;", 0, 1, 0);
        Check.runs(x, "d.0 = 1;", 0, 1, 0);
        Check.runs(x, "f = 1; a = c.0;", 1, 1, 7);
        Check.runs(x, "a = d.0;", 0, 1, 0);
        Check.runs(x, "a.0.0 = 1;", 0, 1, 0);
        Check.runs(x, "a.2 = 1;", 0, 2, 0);
        Check.runs(x, "f = a.999;", 0, 2, 0);
        Check.runs(x, "a.0 = nil;", 0, 3, 0);
        Check.runs(x, "a.0 = a;", 0, 3, 0);
        Check.runs(x, "a.1 = 1;", 0, 3, 0);
        Check.runs(x, "e.0 = 1;", 0, 3, 0);
        Check.runs(x, "f = d + 0;", 0, 4, 0);
        Check.runs(x, "f = a - 1;", 0, 4, 0);
        Check.runs(x, "f = a + 3;", 0, 4, 0);
        Check.runs(x, "f = b + 1;", 0, 4, 0);
        Check.runs(x, "c.0 = a.2;", 0, 2, 0);
        Check.runs(x, "c.0 = d + 1;", 0, 4, 0);
        Check.runs(x, " when c.0 = a.2 []", 0, 1, 1);
        Check.runs(x, " when a.2 = c.0 []", 0, 2, 1);
        Check.runs(x, "repeat 2 [ when a.0 = a.2 [] ]", 1, 2, 11);
        Check.due("what was done stays", x.word(-3, 1), 1);
        int limit = x.has(1);
        Check.runs(x, "c.0 = new p;", 0, 1, 0);
        Check.due("the new cell stays", x.has(1), limit - 3);
        Check.due("undo()", x.undo(), true);
        Check.due("has(1)", x.has(1), limit);
        Check.due("failed(0), undone", x.failed(0), 1);
        Check.runFault(x, "?", 1, 0);
        Check.due("failed(0) behind a fault", x.failed(0), 1);
        Check.runs(x, "slide;", 1, 0, -1);
    }

    private static void counts() {
        CellSlide x = Check.heap(HEAP);
        Check.runs(x, "d = 0; repeat 99 [ d = d + 1; d = d + 1; d = d + 1; ]", 397, 0, -1);
        Check.holds(x, -5, 0, 297);
        Check.runs(x, "d = 0; repeat 99 [ d = d + 1; d = d + 1; d = d + 1; ] a=a;a=a;a=a;", 400, 0, -1);
        Check.runs(x, "repeat 99 [ d = d - 1; d = d + 1; d = d + 1; ] slide;slide;slide;slide; a.5 = c.0;",
            400, 6, 72);
        Check.runs(x, "repeat 99 [ repeat 50 [ ] ]", 400, 6, 12);
        Check.runs(x, "repeat 99 [ repeat 99 [ ] ]", 400, 6, 0);
        Check.runs(x, "repeat 99 [ when 1=1 [ when 1=2 [] when 1=1 [] ] ] repeat 0 [] repeat 4 []", 400, 0, -1);
        Check.runs(x, "repeat 99 [ when 1=1 [ when 1=2 [] when 1=1 [] ] ] repeat 0 [] repeat 5 []", 400, 6, 63);
        Check.runs(x, "repeat 80 [ a=a;a=a;a=a;a=a;] when c.0 = 1 []", 400, 6, 30);
        Check.runs(x, "repeat 80 [ a=a;a=a;a=a;a=a;] slide;", 400, 6, 30);
        Check.runs(x, "a=b;".repeat(400), 400, 0, -1);
        Check.runs(x, "repeat 0 [ c.0 = 1; ]", 0, 0, -1);
        Check.runs(x, "d=0;repeat 2[repeat 3[repeat 4[repeat 5[d=d+1;]]]]", 1 + 2 + 6 + 24 + 240, 0, -1);
        Check.holds(x, -5, 0, 120);
        Check.runs(x, "repeat 1[]repeat 2[repeat 1[]repeat 1[repeat 1[repeat 3[d=d+1;]]]]", 1 + 2 * 10, 0, -1);
        Check.holds(x, -5, 0, 126);
        Check.runs(x, "d = 0; repeat 2 [ repeat 3 [ d = d + 1; ] repeat 0 [ d = 0; ] d = d + 10; ]", 17, 0, -1);
        Check.holds(x, -5, 0, 26);
    }

    private static void rooms() {
        CellSlide x = Check.heap("heap 16;kind p num,ref;kind w weak,ref,num,num,num;root 3 7;");
        Check.runs(x, "repeat 5 [ a = new p; a.0 = d; d = d + 1; ]", 20, 0, -1);
        Check.due("has(1)", x.has(1), 1);
        Check.due("has(5)", x.has(5), 0);
        Check.runs(x, "b = new w;", 1, 0, -1);
        Check.due("has(5)", x.has(5), 1);
        Check.due("kept(0, 0)", x.kept(0, 0), 3);
        Check.due("kept(0, 1)", x.kept(0, 1), 12);
        Check.due("has(1)", x.has(1), 7);
        Check.holds(x, -8, 1, 13);
        Check.holds(x, 14, 0, 11);
        Check.holds(x, -7, 1, 7);
        Check.runs(x, "b.0 = new p; a.1 = new p; c = new w;", 2, 5, 26);
        Check.due("has(1)", x.has(1), 4);
        Check.due("has(5)", x.has(5), 2);
        Check.holds(x, 8, 1, -1);
        Check.due("kept(1, 3)", x.kept(1, 3), 1);
        Check.due("undo()", x.undo(), true);
        Check.due("undo()", x.undo(), true);
        Check.due("has(5)", x.has(5), 0);
        Check.due("has(1)", x.has(1), 1);
    }
}
