/** Promises 4 to 7: heap, fault, has, word. */
final class HeapTest {
    private static final String TWO = "heap 24;kind p num,ref;kind w weak,ref;";

    public static void main(String[] args) {
        faultsOfForm();
        faultsOfNumbers();
        faultsOfNames();
        faultsOfCount();
        touching();
        told();
        allStays();
        allIsNew();
        Check.end();
    }

    private static void faultsOfForm() {
        Check.heapFault("", 1, 0);
        Check.heapFault(" \n ", 1, 3);
        Check.heapFault("\t", 1, 0);
        Check.heapFault(";", 1, 0);
        Check.heapFault("kind p num;", 1, 0);
        Check.heapFault("heapheap 24;", 1, 0);
        Check.heapFault("HEAP 24;", 1, 0);
        Check.heapFault(" hea", 1, 1);
        Check.heapFault("heap", 1, 4);
        Check.heapFault("heap  ", 1, 6);
        Check.heapFault("heap ;", 1, 5);
        Check.heapFault("heap x;", 1, 5);
        Check.heapFault("heap 24 24;", 1, 8);
        Check.heapFault("heap 24 ", 1, 8);
        Check.heapFault("heap 24;;", 1, 8);
        Check.heapFault("heap 24; 5", 1, 9);
        Check.heapFault("heap 24;slide;", 1, 8);
        Check.heapFault("heap 24;\u00e9", 1, 8);
        Check.heapFault("heap 24;kind", 1, 12);
        Check.heapFault("heap 24;kind 5", 1, 13);
        Check.heapFault("heap 24;kind p", 1, 14);
        Check.heapFault("heap 24;kind p;", 1, 14);
        Check.heapFault("heap 24;kind p nu,ref;", 1, 15);
        Check.heapFault("heap 24;kind p nil;", 1, 15);
        Check.heapFault("heap 24;kind p num ref;", 1, 19);
        Check.heapFault("heap 24;kind p numnumnum;", 1, 15);
        for (String own : ("heap kind cell set root method num ref weak nil new slide repeat when").split(" ")) {
            Check.heapFault("heap 24;kind " + own + " num;", 1, 13);
            Check.heapFault(TWO + "cell " + own + " p 1,nil;", 1, 44);
            Check.heapFault(TWO + "cell a " + own + " 1,nil;", 1, 46);
            Check.heapFault(TWO + "set " + own + ".0 1;", 1, 43);
            if (!own.equals("nil")) {
                Check.heapFault(TWO + "cell a p 1," + own + ";", 1, 50);
                Check.heapFault(TWO + "root 0 " + own + ";", 1, 46);
            }
        }
        Check.heapFault(TWO + "cell a p 1,nil", 1, 53);
        Check.heapFault(TWO + "cell a p 1,nil,", 1, 53);
        Check.heapFault(TWO + "cell a p 1,nil+1;", 1, 53);
        Check.heapFault(TWO + "cell a p 1+1,nil;", 1, 49);
        Check.heapFault(TWO + "cell a p 1,a-1;", 1, 51);
        Check.heapFault(TWO + "cell a p 1,a+;", 1, 52);
        Check.heapFault(TWO + "cell a p a,nil;", 1, 48);
        Check.heapFault(TWO + "cell a p abcdefgh,nil;", 1, 48);
        Check.heapFault(TWO + "cell a p 1,1234;", 1, 50);
        Check.heapFault(TWO + "cell a w 1,nil;", 1, 48);
        Check.heapFault(TWO + "cell a p;", 1, 47);
        Check.heapFault(TWO + "cell a p ,nil;", 1, 48);
        Check.heapFault(TWO + "cell a p 1,nil;set a 0 1;", 1, 60);
        Check.heapFault(TWO + "cell a p 1,nil;set a.x 1;", 1, 60);
        Check.heapFault(TWO + "cell a p 1,nil;set a.1 1;", 1, 62);
        Check.heapFault(TWO + "cell a p 1,nil;set a.0 a;", 1, 62);
        Check.heapFault(TWO + "cell a p 1,nil;set a.0 1", 1, 63);
        Check.heapFault(TWO + "root nil;", 1, 44);
        Check.heapFault(TWO + "root 0;", 1, 45);
        Check.heapFault(TWO + "root 0 -1;", 1, 46);
        Check.heapFault(TWO + "method;", 1, 45);
    }

    private static void faultsOfNumbers() {
        Check.heapFault("heap 0;", 2, 5);
        Check.heapFault("heap 15", 2, 5);
        Check.heapFault("heap 999;", 2, 5);
        Check.heapFault("heap 1600;", 1, 8);
        Check.heapFault("heap 0024;", 1, 8);
        Check.heapFault("heap 9999;", 1, 8);
        Check.heapFault(TWO + "cell a p 0,a+3;", 2, 52);
        Check.heapFault(TWO + "cell a p 0,a+1000;", 1, 55);
        Check.heapFault(TWO + "cell a p 0,nil;set a.2 0;", 2, 60);
        Check.heapFault(TWO + "cell a p 0,nil;set a.2", 2, 60);
        Check.heapFault(TWO + "root 8 nil;", 2, 44);
        Check.heapFault(TWO + "root 0 1000;", 1, 49);
        Check.heapFault(TWO + "method 2;", 2, 46);
        Check.heapFault(TWO + "method 0001;", 1, 49);
    }

    private static void faultsOfNames() {
        Check.heapFault("heap 24;kind p num;kind p", 3, 24);
        Check.heapFault("heap 24;kind abcdefg num;", 1, 19);
        Check.heapFault("heap 24;kind abcdefghi num;", 1, 19);
        Check.heapFault(TWO + "cell p p 1,nil;", 3, 44);
        Check.heapFault(TWO + "cell a p 1,nil;cell a p 1,nil;", 3, 59);
        Check.heapFault(TWO + "cell a p 1,nil;kind a num;", 3, 59);
        Check.heapFault(TWO + "cell a a 1,nil;", 3, 46);
        Check.heapFault(TWO + "cell a q 1,nil;", 3, 46);
        Check.heapFault(TWO + "cell a P 1,nil;", 3, 46);
        Check.heapFault(TWO + "cell a abcdefg 1,nil;", 1, 52);
        Check.heapFault(TWO + "cell a p 1,b;cell b p 1,nil;", 3, 50);
        Check.heapFault(TWO + "cell a p 1,abcdefg;", 1, 56);
        Check.heapFault(TWO + "cell a p 1,w;", 3, 50);
        Check.heapFault(TWO + "set a.0 1;", 3, 43);
        Check.heapFault(TWO + "cell a p 1,nil;set a.1 q;", 3, 62);
        Check.heapFault(TWO + "cell a p 1,nil;set a.1 a+3;", 2, 64);
        Check.heapFault(TWO + "set p.0 1;", 3, 43);
        Check.heapFault(TWO + "set abcdefg.0 1;", 1, 49);
        Check.heapFault(TWO + "root 0 a;", 3, 46);
        Check.heapFault(TWO + "root 0 p;", 3, 46);
        Check.heapFault(TWO + "root 0 abcdefg;", 1, 52);
    }

    private static void faultsOfCount() {
        Check.heapFault("heap 16;kind p num,num,num,num,num,num;cell a p 1,2,3,4,5,6;"
            + "cell b p 1,2,3,4,5,6;cell c p", 4, 88);
        String seven = "cell a p 1;cell b p 1;cell c p 1;cell d p 1;cell e p 1;cell f p 1;cell g p 1;";
        Check.heapFault("heap 16;kind p num;" + seven + "cell h p 1;cell i p", 4, 114);
        Check.heapFault("heap 16;kind p num;kind q num,num;" + seven + "cell h q", 4, 118);
        Check.heapFault("heap 17;kind p num;kind q num,num;" + seven + "cell h q 1,2;cell i p", 4, 131);
        String six = "num,ref,weak,num,ref,weak";
        Check.heapFault("heap 24;kind p " + six + ",num;", 5, 41);
        Check.heapFault("heap 24;kind p " + six + ", ?", 5, 42);
        Check.heapFault("heap 24;kind p " + six + ",  ", 1, 43);
        Check.heapFault("heap 24;kind p " + six + "?", 1, 40);
        String kinds = "kind a num;kind b num;kind c num;kind d num;kind e num;kind f num;";
        Check.heapFault("heap 24;" + kinds + "kind", 5, 74);
        Check.heapFault("heap 24;" + kinds + " kind a", 5, 75);
        Check.heapFault("heap 24;" + kinds + "kin", 1, 74);
        String sixty = "heap 24;" + "root 0 1;".repeat(59);
        Check.due("length", sixty.length(), 539);
        for (String more : new String[] {"x", "root", "heap", ";", "\t", "5", "kind"}) {
            Check.heapFault(sixty + more, 5, 539);
            Check.heapFault(sixty + " \n" + more, 5, 541);
        }
        CellSlide x = new CellSlide();
        Check.text(x, sixty + " \n ");
        Check.due("heap() of sixty statements", x.heap(), 60);
    }

    /** Words and numbers side by side need a blank: the second one is where no text goes on. */
    private static void touching() {
        Check.heapFault("heap24;", 1, 4);
        Check.heapFault("heap 24kind p num;", 1, 7);
        Check.heapFault(TWO + "cell a p1,nil;", 1, 47);
        Check.heapFault(TWO + "cell a q1,nil;", 3, 46);
        Check.heapFault(TWO + "root0 nil;", 1, 43);
        Check.heapFault(TWO + "root8 nil;", 1, 43);
        Check.heapFault(TWO + "root 0nil;", 1, 45);
        Check.heapFault(TWO + "root 8nil;", 2, 44);
        Check.heapFault(TWO + "method1;", 1, 45);
        Check.heapFault(TWO + "cell a p 1,nil;set a.1nil;", 1, 61);
        CellSlide x = Check.heap("\n heap\n24\n;kind\np num\n, ref;cell a p 1,a + 2 ;set a . 0 7;");
        Check.holds(x, 22, 0, 7);
        Check.holds(x, 23, 1, 23);
    }

    private static void told() {
        CellSlide x = new CellSlide();
        Check.text(x, "heap 16;kind Node num,ref,weak;cell a Node 007,a,nil;cell A Node 1,a+3,A+1;"
            + "set a.2 A;set a.0 9;root 0 a+2;root 7 A;root 3 999;root 7 5;method 1;method 0;method 1;");
        Check.due("heap()", x.heap(), 13);
        Check.due("fault(0)", x.fault(0), 0);
        Check.due("fault(1)", x.fault(1), Check.NONE);
        Check.due("fault(2)", x.fault(2), Check.NONE);
        Check.due("fault(-1)", x.fault(-1), Check.NONE);
        int[] has = {16, 8, 2, 1, 1, 0, 0, 0, 0, 0, Check.NONE};
        for (int what = 0; what < has.length; what++) {
            Check.due("has(" + what + ")", x.has(what), has[what]);
        }
        Check.due("has(-1)", x.has(-1), Check.NONE);
        int[][] words = {{2, 0}, {0, 1}, {1, 15}, {1, 9}, {2, 0}, {0, 9}, {1, 12}, {1, 8}};
        for (int a = 0; a < 8; a++) {
            Check.holds(x, a, 0, 0);
            Check.holds(x, 8 + a, words[a][0], words[a][1]);
        }
        int[][] registers = {{1, 14}, {1, -1}, {1, -1}, {0, 999}, {1, -1}, {1, -1}, {1, -1}, {0, 5}};
        for (int r = 0; r < 8; r++) {
            Check.holds(x, r - 8, registers[r][0], registers[r][1]);
        }
        int[][] none = {{16, 0}, {-9, 0}, {0, 2}, {0, -1}, {Integer.MAX_VALUE, 0}, {Integer.MIN_VALUE, 1}};
        for (int[] row : none) {
            Check.due("word(" + row[0] + ", " + row[1] + ")", x.word(row[0], row[1]), Check.NOTHING);
        }
        CellSlide full = Check.heap("heap 16;kind p num,num,num;cell a p 1,2,3;cell b p 1,2,3;"
            + "cell c p 1,2,3;cell d p 1,2,3;");
        Check.due("has(1) of a full heap", full.has(1), 0);
        Check.due("has(2) of a full heap", full.has(2), 4);
        CellSlide names = Check.heap("heap 16;kind azAZ num;cell zaZA azAZ 1;cell z azAZ 2;root 0 zaZA;");
        Check.holds(names, -8, 1, 14);
        CellSlide largest = Check.heap("heap 160;");
        Check.due("has(0) of the largest", largest.has(0), 160);
        Check.due("has(3) without kinds", largest.has(3), 0);
        Check.holds(largest, 159, 0, 0);
    }

    private static void allStays() {
        CellSlide x = Check.heap("heap 20;kind p num;cell a p 5;root 0 a;");
        Check.runs(x, "a.0 = nil;", 0, 3, 0);
        Check.due("begin()", x.begin(), 14);
        Check.text(x, "heap 30;kind q num;cell a q 5;root 0 a");
        Check.due("heap() with a fault", x.heap(), Check.NONE);
        Check.due("fault(1)", x.fault(1), 38);
        Check.due("has(0)", x.has(0), 20);
        Check.due("has(8)", x.has(8), 2);
        Check.due("stage(0)", x.stage(0), 1);
        Check.due("failed(0)", x.failed(0), 3);
        Check.due("step(400)", x.step(400), 0);
        Check.runs(x, "a = new p;", 1, 0, -1);
    }

    private static void allIsNew() {
        CellSlide x = Check.heap("heap 20;kind p num;cell a p 5;root 0 a;method 1;");
        Check.runs(x, "a.0 = nil;", 0, 3, 0);
        Check.due("seed(77)", x.seed(77), true);
        Check.due("remember()", x.remember(), 1);
        Check.bytes(x, 19, 0, 1005 >> 8, 1005 & 255);
        Check.due("see()", x.see(), 1);
        Check.due("image()", x.image(), 33);
        Check.due("collect()", x.collect(), 18);
        Check.due("begin()", x.begin(), 13);
        Check.text(x, "heap 17;kind p num;kind q ref;");
        Check.due("heap()", x.heap(), 3);
        int[] has = {17, 17, 0, 2, 0, 0, 0, 0, 0, 0};
        for (int what = 0; what < has.length; what++) {
            Check.due("has(" + what + ") of the new heap", x.has(what), has[what]);
        }
        Check.due("failed(0)", x.failed(0), 0);
        Check.due("failed(1)", x.failed(1), Check.NONE);
        Check.due("stage(0)", x.stage(0), Check.NOTHING);
        Check.due("undo()", x.undo(), false);
        Check.due("alike()", x.alike(), Check.NONE);
        Check.due("octet(0)", x.octet(0), 1);
        Check.due("octet(32)", x.octet(32) >= 0, true);
        Model m = new Model(17, "n", "r");
        Model.Seed seed = new Model.Seed();
        seed.x = java.math.BigInteger.valueOf(77);
        for (int i = 0; i < 50; i++) {
            m.change(seed);
        }
        x.chance(50);
        for (int a = -8; a < 17; a++) {
            Check.holds(x, a, m.sort(a), m.number(a));
        }
    }
}
