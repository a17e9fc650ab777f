/** Terms I and promises 1 to 7: the tape, the text of a heap, what it has. */
final class EdgesOfText {
    private static final String[] OWN = ("heap kind cell set root method num ref weak nil new slide repeat "
        + "when").split(" ");
    private static final String P = "heap 24;kind p num,ref,weak;";
    private static final String A = P + "cell a p 1,nil,nil;";
    private static final String SIXTY = "heap 16;" + "method 0;".repeat(59);
    private static final String SIX = "kind a num;kind b num;kind c num;kind d num;kind e num;kind f num;";

    private EdgesOfText() { }

    static void all() {
        calls();
        statements();
        items();
        tokens();
        faultOne();
        otherFaults();
        tape();
        heap();
        fault();
        has();
        word();
    }

    private static void calls() {
        Edge.of("calls", "An object is used for at most 512 calls after it has been made; what later calls "
            + "answer is free.");
        CellSlide x = Check.heap("heap 16;kind p num;cell a p 1;root 0 a;");
        // Four calls told the heap; these are the 5th to the 512th.
        for (int call = 5; call <= 511; call += 2) {
            Check.due("collect()", x.collect(), 14);
            Check.due("has(5)", x.has(5), (call - 3) / 2);
        }
        Edge.of("constants", "The constants: `NONE = -1`: There is none; it is refused.");
        Check.due("NONE", CellSlide.NONE, -1);
        Edge.of("constants", "`NOTHING = -1000000`: Told where a number below 0 may be one.");
        Check.due("NOTHING", CellSlide.NOTHING, -1000000);
        Check.due("word() where -1 may be one", new CellSlide().word(0, 1), -1000000);
        Check.due("stage() where -8 may be one", new CellSlide().stage(1), -1000000);
    }

    private static void statements() {
        Edge.of("I", "A HEAP is a text: { STATEMENT ; } (60 at most)");
        Edge.good("heap 16;", 1);
        Edge.good(SIXTY, 60);
        Edge.heapFault(5, SIXTY + "^method 0;");
        Edge.heapFault(1, "heap 16;^;");
        Edge.heapFault(1, "heap 16^");
        Edge.of("I", "heap N (16 .. 160 WORDS; the first STATEMENT, and no other)");
        Edge.heapFault(2, "heap ^15;");
        Check.due("has(0)", Check.heap("heap 16;").has(0), 16);
        Check.due("has(0)", Check.heap("heap 160;").has(0), 160);
        Edge.heapFault(2, "heap ^161;");
        Edge.heapFault(1, "^method 0;heap 16;");
        Edge.heapFault(1, "heap 16;^heap 16;");
        Edge.heapFault(1, "heap 16;method 0;^heap 16;");
        Edge.of("I", "kind NAME FIELD { , FIELD } (6 KINDS; 1 .. 6 FIELDS; a FIELD is num, ref or weak)");
        Edge.heapFault(1, "heap 16;kind p^;");
        Check.due("has(3)", Check.heap("heap 16;kind p num;").has(3), 1);
        CellSlide six = Check.heap("heap 16;kind p num,ref,weak,num,ref,weak;cell a p 1,nil,nil,2,a+6,a+5;");
        Edge.words(six, 9, "H0 N1 nil nil N2 P15 P14");
        Edge.heapFault(5, "heap 16;kind p num,ref,weak,num,ref,weak,^num;");
        Check.due("has(3)", Check.heap("heap 16;" + SIX).has(3), 6);
        Edge.heapFault(5, "heap 16;" + SIX + "^kind g num;");
        Edge.heapFault(1, "heap 16;kind p ^nil;");
        Edge.heapFault(1, "heap 16;kind p num,^refs;");
        Edge.of("I", "cell NAME KIND ITEM { , ITEM } (one for each FIELD)");
        Edge.good(P + "cell a p 1,nil,nil;", 3);
        Edge.heapFault(1, P + "cell a p 1,nil^;");
        Edge.heapFault(1, P + "cell a p 1,nil,nil^,nil;");
        Edge.heapFault(1, P + "cell a p^;");
        Edge.of("I", "set NAME . N ITEM (that FIELD, 0 and on, of that CELL holds the ITEM from then on)");
        Edge.words(Check.heap(A + "set a.0 2;set a.1 a;set a.2 a+3;"), 20, "H0 N2 P20 P23");
        Edge.words(Check.heap(A + "set a.0 2;set a.0 3;"), 20, "H0 N3 nil nil");
        Edge.heapFault(2, A + "set a.^3 2;");
        Edge.of("I", "root N ITEM (REGISTER 0 .. 7)");
        Edge.words(Check.heap("heap 16;root 0 1;root 7 2;root 0 3;"), -8, "N3 nil nil nil nil nil nil N2");
        Edge.heapFault(2, "heap 16;root ^8 1;");
        Edge.of("I", "method N (0, 1; the last one counts, 0 without)");
        Check.due("method 0", Check.heap("heap 16;method 0;").has(4), 0);
        Check.due("method 1", Check.heap("heap 16;method 1;").has(4), 1);
        Check.due("the last one", Check.heap("heap 16;method 1;method 0;").has(4), 0);
        Check.due("the last one", Check.heap("heap 16;method 0;method 1;").has(4), 1);
        Check.due("without", Check.heap("heap 16;").has(4), 0);
        Edge.heapFault(2, "heap 16;method ^2;");
    }

    private static void items() {
        Edge.of("I", "ITEM: of num N (0 .. 999)");
        Edge.words(Check.heap(P + "cell a p 0,nil,nil;cell b p 999,nil,nil;"), 16, "H0 N999 nil nil H0 N0");
        Edge.heapFault(1, P + "cell a p 100^0,nil,nil;");
        Edge.heapFault(1, P + "cell a p ^-1,nil,nil;");
        Edge.heapFault(1, P + "cell a p 1^+1,nil,nil;");
        Edge.of("I", "of ref, weak nil or NAME [ + N ] (a pointer to that WORD of that CELL: 0, also without, "
            + "its first one, 1 that of FIELD 0, and so on;");
        Edge.words(Check.heap(A + "cell b p 1,a,a+0;cell c p 1,a+1,a+3;"), 12,
            "H0 N1 P21 P23 H0 N1 P20 P20 H0 N1 nil nil");
        Edge.heapFault(2, A + "cell b p 1,a+^4,nil;");
        Edge.heapFault(2, A + "cell b p 1,nil,a+^4;");
        Edge.heapFault(1, A + "cell b p 1,nil^+0,nil;");
        Edge.heapFault(1, A + "cell b p 1,a^-1,nil;");
        Edge.of("I", "a CELL told ahead, or itself)");
        Edge.words(Check.heap(A + "cell b p 1,b+1,a;"), 16, "H0 N1 P17 P20");
        Edge.heapFault(3, P + "cell a p 1,^b,nil;cell b p 1,nil,nil;");
        Edge.words(Check.heap(A + "cell b p 1,nil,nil;set a.1 b;"), 20, "H0 N1 P16 nil");
        Edge.of("I", "of root any of these.");
        Edge.words(Check.heap(A + "root 0 0;root 1 999;root 2 nil;root 3 a;root 4 a+0;root 5 a+3;"), -8,
            "N0 N999 nil P20 P20 P23 nil nil");
        Edge.heapFault(1, A + "root 0 100^0;");
        Edge.heapFault(2, A + "root 0 a+^4;");
        Edge.heapFault(1, A + "root 0 ^-1;");
    }

    private static void tokens() {
        Edge.of("I", "NAMES: 1 to 6 letters, all unlike (KINDS, CELLS).");
        Edge.words(Check.heap("heap 16;kind q num;kind abcdef num;cell x q 1;cell ABCXYZ abcdef 2;"), 12,
            "H1 N2 H0 N1");
        Edge.heapFault(1, "heap 16;kind abcdef^g num;");
        Edge.heapFault(3, "heap 16;kind q num;kind ^q num;");
        Edge.heapFault(3, "heap 16;kind q num;cell ^q q 1;");
        Edge.heapFault(3, "heap 16;kind q num;cell x q 1;cell ^x q 1;");
        Edge.heapFault(3, "heap 16;kind q num;cell x q 1;kind ^x num;");
        Edge.good("heap 24;kind ab num;kind ba num;kind b num;kind bb num;cell abc ab 1;cell cba ab 1;cell bac ab 1;"
            + "cell aab ab 1;cell aba ab 1;cell Ab ab 1;cell aB ab 1;cell AB ab 1;", 13);
        Edge.of("I", "NUMBERS: 1 to 3 digits.");
        Check.due("has(0)", Check.heap("heap 016;").has(0), 16);
        Edge.words(Check.heap("heap 16;root 0 5;root 1 05;root 2 005;root 003 999;"), -8, "N5 N5 N5 N999");
        Edge.heapFault(1, "heap 16;root 0 000^5;");
        Edge.of("I", "Blanks (10, 32) are where one likes (words and numbers side by side need one).");
        Edge.good(" \n heap \n 16 \n ; kind \n q \n num \n , num ; cell \n x \n q \n 1 \n , 2 ; set \n x \n . \n 0"
            + " \n 1 ; root \n 0 \n x \n + \n 1 ; method \n 0 \n ; \n ", 6);
        Edge.good("heap 16;kind q num,ref;cell x q 1,x+1;set x.0 1;root 0 x+1;method 0;", 6);
        Edge.good("heap\n16;", 1);
        for (char c : new char[] {0, 9, 11, 12, 13, 31, 33, 127, 160, 255}) {
            Edge.heapFault(1, "heap^" + c + "16;");
        }
        Edge.heapFault(1, "heap^16;");
        Edge.heapFault(1, "heap 16;root^0 1;");
        Edge.heapFault(1, "heap 16;root 0^nil;");
        Edge.heapFault(1, "heap 16;method^1;");
        Edge.heapFault(1, "heap 16^kind q num;");
        Edge.heapFault(1, P + "cell a p^1,nil,nil;");
        Edge.heapFault(1, A + "set a.1^a;");
        Edge.heapFault(1, A + "root 0^a;");
        Edge.of("I", "OWN WORDS, which no NAME is: heap, kind, cell, set, root, method, num, ref, weak, nil, "
            + "new, slide, repeat, when.");
        for (String own : OWN) {
            Edge.heapFault(1, "heap 16;kind ^" + own + " num;");
            Edge.heapFault(1, P + "cell ^" + own + " p 1,nil,nil;");
            String other = own.substring(0, own.length() - 1) + "x";
            Edge.good("heap 16;kind " + other + " num;", 2);
        }
    }

    private static void faultOne() {
        Edge.of("I", "FAULTS, the first along the text:");
        Edge.heapFault(2, "heap ^15;kind num num;");
        Edge.heapFault(1, "heap 16;kind ^num num,num,num,num,num,num,num;");
        Edge.heapFault(3, "heap 16;kind q num;kind ^q num,num,num,num,num,num,num;");
        Edge.heapFault(5, "heap 16;" + SIX + "^kind a ?");
        Edge.heapFault(4, "heap 16;kind q num,num,num,num,num,num;cell a q 1,2,3,4,5,6;cell b q 1,2,3,4,5,6;"
            + "cell c ^q nil;");
        Edge.heapFault(3, "heap 16;kind q num,num,num,num,num,num;cell a q 1,2,3,4,5,6;cell b q 1,2,3,4,5,6;"
            + "cell ^b q nil;");
        Edge.of("I", "1 the first byte with which no such text goes on (words and numbers whole, at their first "
            + "byte;");
        Edge.heapFault(1, "^?");
        Edge.heapFault(1, "^16;");
        Edge.heapFault(1, "^hea");
        Edge.heapFault(1, " ^heaps 16;");
        Edge.heapFault(1, "^Heap 16;");
        Edge.heapFault(1, "heap 16 ^16;");
        Edge.heapFault(1, "heap ^sixteen;");
        Edge.heapFault(1, "heap 16;^kindly q num;");
        Edge.heapFault(1, "heap 16;^slide;");
        Edge.heapFault(1, "heap 16;kind q ^numeric;");
        Edge.heapFault(1, "heap 16;kind q num ^num;");
        Edge.heapFault(1, "heap 16;kind ^5 num;");
        Edge.heapFault(1, P + "cell a ^5 1,nil,nil;");
        Edge.heapFault(1, A + "set a ^0 1;");
        Edge.heapFault(1, A + "set a.^a 1;");
        Edge.heapFault(1, "heap 16;root ^nil nil;");
        Edge.heapFault(1, "heap 16;root 0 ^;");
        Edge.heapFault(1, "heap 16;kind q ^,num;");
        Edge.heapFault(1, "heap 16;kind q num,^,num;");
        Edge.heapFault(1, P + "cell a p ^,nil,nil;");
        Edge.heapFault(1, P + "cell a p 1,^,nil;");
        Edge.heapFault(1, P + "cell a p 1,nil,^;");
        Edge.heapFault(1, A + "set a.0 ^;");
        Edge.heapFault(1, A + "set a.1 ^;");
        Edge.heapFault(1, A + "set a.1 a+^;");
        Edge.of("I", "where a NAME is asked, a 7th letter,");
        Edge.heapFault(1, "heap 16;kind abcdef^ghijk num;");
        Edge.heapFault(1, "heap 16;kind repeat^s num;");
        Edge.heapFault(1, P + "cell abcdef^g p 1,nil,nil;");
        Edge.heapFault(1, P + "cell a abcdef^g 1,nil,nil;");
        Edge.heapFault(1, A + "set abcdef^g.0 1;");
        Edge.heapFault(1, A + "set a.1 abcdef^g;");
        Edge.heapFault(1, A + "cell b p 1,nil,abcdef^g;");
        Edge.heapFault(1, A + "root 0 abcdef^g;");
        Edge.of("I", "where a number is, a 4th digit at itself;");
        Edge.heapFault(1, "heap 016^0;");
        Edge.heapFault(1, "heap 160^12345;");
        // The number that the digits make is not looked at: where a NAME has a 7th letter it is so, too.
        Edge.heapFault(1, "heap 999^9;");
        Edge.heapFault(1, "heap 000^0;");
        Edge.heapFault(1, A + "root 999^9 nil;");
        Edge.heapFault(1, A + "set a.000^0 1;");
        Edge.heapFault(1, A + "set a.999^9 1;");
        Edge.heapFault(1, A + "set a.0 999^9;");
        Edge.heapFault(1, A + "set a.1 a+000^1;");
        Edge.heapFault(1, A + "root 000^0 1;");
        Edge.heapFault(1, A + "root 0 123^4;");
        Edge.heapFault(1, A + "method 000^1;");
        Edge.of("I", "at the text's length, if it ends too soon;");
        String[] ends = {"", "heap", "heap 24", P + "kind", P + "kind q", P + "kind q num", P + "kind q num,",
            P + "cell", P + "cell a", P + "cell a p", P + "cell a p 1", P + "cell a p 1,", P + "cell a p 1,nil,a",
            P + "cell a p 1,nil,a+", P + "cell a p 1,nil,a+1", A + "set", A + "set a", A + "set a.", A + "set a.0",
            A + "set a.0 7", A + "root", A + "root 0", A + "root 0 a", A + "root 0 a+", A + "root 0 a+1",
            A + "method", A + "method 1"};
        for (String end : ends) {
            Edge.heapFault(1, end + "^");
            Edge.heapFault(1, end + " \n ^");
        }
        Edge.of("I", "an OWN WORD where a NAME must be,");
        for (String own : OWN) {
            Edge.heapFault(1, P + "cell a ^" + own + " 1,nil,nil;");
            Edge.heapFault(1, A + "set ^" + own + ".0 1;");
            if (!own.equals("nil")) {
                Edge.heapFault(1, A + "set a.1 ^" + own + ";");
                Edge.heapFault(1, A + "set a.2 ^" + own + ";");
                Edge.heapFault(1, A + "root 0 ^" + own + ";");
            }
        }
        Edge.of("I", "an ITEM that such a FIELD can't hold, at it)");
        Edge.heapFault(1, A + "set a.0 ^nil;");
        Edge.heapFault(1, A + "set a.0 ^a;");
        Edge.heapFault(1, A + "set a.0 ^abcdefgh;");
        Edge.heapFault(1, A + "set a.1 ^5;");
        Edge.heapFault(1, A + "set a.1 ^5555;");
        Edge.heapFault(1, A + "set a.2 ^5;");
        Edge.heapFault(1, P + "cell a p ^nil,nil,nil;");
        Edge.heapFault(1, P + "cell a p 1,^1,nil;");
        Edge.heapFault(1, P + "cell a p 1,nil,^1;");
    }

    private static void otherFaults() {
        Edge.of("I", "2 a number that can't be, at it;");
        Edge.heapFault(2, "heap ^0;");
        Edge.heapFault(2, "heap ^000;");
        Edge.heapFault(2, "heap ^15");
        Edge.heapFault(2, "heap ^161 ?");
        Edge.heapFault(2, "heap ^999;");
        // What the tape has behind its end (a digit, once in these four) is not read.
        for (String blanks : new String[] {"", " ", "  ", "   "}) {
            Edge.heapFault(2, blanks + "heap ^161");
        }
        Edge.heapFault(2, A + "set a.^3 nil;");
        Edge.heapFault(2, A + "set a.^999");
        Edge.heapFault(2, A + "set a.1 a+^4;");
        Edge.heapFault(2, A + "root ^8");
        Edge.heapFault(2, A + "root ^008 nil;");
        Edge.heapFault(2, A + "root 0 a + ^999;");
        Edge.heapFault(2, A + "method ^2");
        Edge.of("I", "3 a NAME to be given that is there already, or one that is none of what is asked, at it;");
        Edge.heapFault(3, A + "kind ^a");
        Edge.heapFault(3, A + "kind ^p");
        Edge.heapFault(3, A + "cell ^a");
        Edge.heapFault(3, A + "cell ^p");
        Edge.heapFault(3, A + "cell b ^b");
        Edge.heapFault(3, A + "cell b ^a");
        Edge.heapFault(3, A + "cell b ^P");
        Edge.heapFault(3, A + "set ^p");
        Edge.heapFault(3, A + "set ^b.0 1;");
        Edge.heapFault(3, A + "set a.1 ^p;");
        Edge.heapFault(3, A + "root 0 ^p;");
        Edge.heapFault(3, A + "root 0 ^b;");
        Edge.heapFault(3, A + "cell b p 1,^p,nil;");
        Edge.of("I", "4 a cell that has no room any more, at its KIND;");
        String three = "kind q num,num;kind o num;cell a q 1,2;cell b q 1,2;cell c q 1,2;cell d q 1,2;";
        Check.due("no word is left", Check.heap("heap 18;" + three + "cell e q 1,2;cell f q 1,2;").has(1), 0);
        Edge.heapFault(4, "heap 17;" + three + "cell e q 1,2;cell f ^q 1,2;");
        Edge.heapFault(4, "heap 18;" + three + "cell e q 1,2;cell f q 1,2;cell g ^o");
        Check.due("a smaller one has", Check.heap("heap 17;" + three + "cell e q 1,2;cell f o 1;").has(1), 0);
        Edge.of("I", "5 one too many of a kind (a 7th kind;");
        Edge.heapFault(5, "heap 16;" + SIX + "^kind");
        Edge.heapFault(5, "heap 16;" + SIX + " \n ^kind g num;");
        Edge.heapFault(1, "heap 16;" + SIX + "^kin");
        Edge.of("I", "a 7th FIELD, a 61st STATEMENT, whatever stands there, if anything does), at its first byte.");
        String fields = "heap 16;kind p num,ref,weak,num,ref,weak,";
        for (String more : new String[] {"num", "nil", "x", ";", ",", "5", "?", "\t"}) {
            Edge.heapFault(5, fields + "^" + more);
            Edge.heapFault(5, fields + " \n^" + more);
            Edge.heapFault(5, SIXTY + "^" + more);
            Edge.heapFault(5, SIXTY + "\n ^" + more);
        }
        Edge.heapFault(1, fields + "^");
        Edge.heapFault(1, fields + "  ^");
        Edge.good(SIXTY + "  \n", 60);
    }

    private static void tape() {
        Edge.of(1, "No heap.");
        CellSlide x = new CellSlide();
        Check.due("has(0)", x.has(0), 0);
        Check.due("word(0, 0)", x.word(0, 0), Check.NOTHING);
        Edge.none("collect()", x.collect());
        Edge.of(2, "Twenty bytes come behind those on the tape, of each number the highest first: how many there "
            + "are;");
        x = new CellSlide();
        // "heap 16;root 0 1;roo" "t 7 2;method 1;     "
        Check.due("feed", x.feed(0x68656170, 0x2031363b, 0x726f6f74, 0x20302031, 0x3b726f6f), 20);
        Check.due("feed", x.feed(0x74203720, 0x323b6d65, 0x74686f64, 0x20313b20, 0x20202020), 40);
        Check.due("heap()", x.heap(), 4);
        Edge.words(x, -8, "N1 nil nil nil nil nil nil N2");
        // A row of REGISTER -1, NUMBER 2: the highest byte, and so the number, is below 0 as an int.
        Check.due("feed", x.feed(0xff0003ea, -1, -1, -1, -1), 20);
        Check.due("end(4)", x.end(4), true);
        Check.due("see()", x.see(), 1);
        Check.due("then(NONE)", x.then(Check.NONE), 11);
        Edge.of(2, "NONE, refused (0), if there would be more than 1600.");
        x = new CellSlide();
        for (int n = 20; n <= 1600; n += 20) {
            Check.due("feed", x.feed(1, 2, 3, 4, 5), n);
        }
        Edge.none("the 81st feed", x.feed(0, 0, 0, 0, 0));
        Check.due("status(0)", x.status(0), 1);
        Check.due("end(1600)", x.end(1600), true);
        Check.due("end(1581)", x.end(1581), true);
        Edge.none("feed behind 1581", x.feed(0, 0, 0, 0, 0));
        Check.due("status(0)", x.status(0), 2);
        Check.due("end(1582)", x.end(1582), false);
        Check.due("end(1580)", x.end(1580), true);
        Check.due("feed behind 1580", x.feed(0, 0, 0, 0, 0), 1600);
        Edge.of(3, "The tape has its first n bytes alone: true;");
        x = new CellSlide();
        Check.due("end(0)", x.end(0), true);
        Check.due("feed", x.feed(0x68656170, 0x2031363b, 0x3b3b3b3b, 0, 0), 20);
        Check.due("end(20)", x.end(20), true);
        Check.due("end(8)", x.end(8), true);
        Check.due("heap()", x.heap(), 1);
        Check.due("feed", x.feed(0, 0, 0, 0, 0), 20);
        Check.due("end(3)", x.end(3), true);
        Check.due("feed", x.feed(0, 0, 0, 0, 0), 23);
        Edge.of(3, "false, refused (0), if it has not so many, or n is below 0.");
        Check.due("end(24)", x.end(24), false);
        Check.due("end(most)", x.end(Integer.MAX_VALUE), false);
        Check.due("end(-1)", x.end(-1), false);
        Check.due("end(least)", x.end(Integer.MIN_VALUE), false);
        Check.due("status(0)", x.status(0), 4);
        Check.due("the tape stays", x.end(23), true);
        Check.due("end(0)", x.end(0), true);
        Check.due("end(1) of nothing", x.end(1), false);
    }

    private static CellSlide full() {
        CellSlide x = Check.heap("heap 16;kind p num,ref;cell a p 5,nil;cell b p 6,a;root 0 b;method 1;");
        Edge.fails(x, 1, 3, "a = a; ^a.0 = nil;");
        Check.due("collect()", x.collect(), 10);
        Check.due("remember()", x.remember(), 2);
        Check.due("see()", Edge.see(x, -8, 1, 10), 1);
        Check.due("begin()", x.begin(), 17);
        Check.due("step(3)", x.step(3), 14);
        return x;
    }

    private static void heap() {
        Edge.of(4, "The tape (it goes) is THE HEAP: how many STATEMENTS;");
        CellSlide x = new CellSlide();
        Check.text(x, "heap 16;method 1;");
        Check.due("heap()", x.heap(), 2);
        Check.due("feed", x.feed(0, 0, 0, 0, 0), 20);
        Edge.none("heap() of what is none", x.heap());
        Check.due("feed", x.feed(0, 0, 0, 0, 0), 20);
        // What the one ahead of it ended with is nothing to the next one.
        x = new CellSlide();
        Check.text(x, "heap 16");
        Edge.none("heap() that ends too soon", x.heap());
        Check.text(x, "       heap 17;");
        Check.due("heap()", x.heap(), 1);
        Check.text(x, "heap 18;kind p num;cell a p 1;kind q num;cell b q 1;root 0 b;method 1;");
        Check.due("heap()", x.heap(), 7);
        Check.text(x, "heap 19;kind a num;kind p num;cell b p 1;cell q a 2;");
        Check.due("heap()", x.heap(), 5);
        Edge.words(x, -8, "nil nil nil nil nil nil nil nil N0");
        Edge.words(x, 14, "N0 H0 N2 H1 N1");
        Check.due("has(4)", x.has(4), 0);
        Edge.of(4, "NONE, refused (1), with a FAULT (all stays;");
        x = full();
        String before = Edge.all(x);
        Check.text(x, "heap 24;kind q num;cell a q 5;root 0 a");
        Edge.none("heap() with a FAULT", x.heap());
        Check.due("status(1)", x.status(1), 1);
        Check.due("fault(0)", x.fault(0), 1);
        Edge.same("all stays", Edge.all(x), before);
        Check.due("step(400)", x.step(400), 0);
        Edge.runs(x, 1, "a = new p;");
        Edge.of(4, "one without a STATEMENT has FAULT 1 at its length).");
        Edge.heapFault(1, "^");
        Edge.heapFault(1, " ^");
        Edge.heapFault(1, " \n\n \n^");
        Edge.of(4, "Without one all is as told, nothing FAILED, is KEPT, SEEN, REMEMBERED or can be undone, no "
            + "COLLECTION goes on; the seed stays.");
        x = full();
        Check.due("seed(5)", x.seed(5), true);
        String text = "heap 20;kind q ref;kind r num;cell a q nil;root 3 a;";
        Check.text(x, text);
        Check.due("heap()", x.heap(), 5);
        CellSlide fresh = Check.heap(text);
        Check.due("failed(0)", x.failed(0), 0);
        Check.due("failed(1)", x.failed(1), Check.NONE);
        Check.due("undo()", x.undo(), false);
        Edge.same("as a new one", Edge.all(x), Edge.all(fresh));
        Check.due("chance(50)", x.chance(50), seeded(fresh, 5).chance(50));
        Edge.same("with that seed", Edge.all(x), Edge.all(fresh));
    }

    private static CellSlide seeded(CellSlide x, int seed) {
        Check.due("seed", x.seed(seed), true);
        return x;
    }

    private static void fault() {
        Edge.of(5, "Of the latest heap() or run() that read its tape: its FAULT (what 0; 0 without, and ahead of any), "
            + "its place (1; NONE without).");
        CellSlide x = new CellSlide();
        faultIs(x, 0, Check.NONE);
        Edge.none("run() without a heap", Check.run(x, "?"));
        faultIs(x, 0, Check.NONE);
        Check.text(x, "heap 15;");
        Edge.none("heap()", x.heap());
        faultIs(x, 2, 5);
        Edge.none("run() without a heap", Check.run(x, "?"));
        faultIs(x, 2, 5);
        Check.text(x, "heap 16;kind p num;");
        Check.due("heap()", x.heap(), 2);
        faultIs(x, 0, Check.NONE);
        Edge.none("run()", Check.run(x, "a = new q;"));
        faultIs(x, 3, 8);
        Check.due("begin()", x.begin(), 10);
        Edge.none("run() while one goes on", Check.run(x, "?"));
        faultIs(x, 3, 8);
        Check.due("step(400)", x.step(400), 0);
        Check.bytes(x, 1);
        Edge.none("see(), which is neither", x.see());
        faultIs(x, 3, 8);
        Edge.runs(x, 0, "");
        faultIs(x, 0, Check.NONE);
        Edge.of(5, "NONE for another what.");
        Edge.none("fault(2)", x.fault(2));
        Edge.none("fault(-1)", x.fault(-1));
        Edge.none("fault(most)", x.fault(Integer.MAX_VALUE));
        Edge.none("fault(2) ahead of any", new CellSlide().fault(2));
    }

    private static void faultIs(CellSlide x, int fault, int place) {
        Check.due("fault(0)", x.fault(0), fault);
        Check.due("fault(1)", x.fault(1), place);
    }

    private static void hasAll(CellSlide x, int... want) {
        for (int what = 0; what < want.length; what++) {
            Check.due("has(" + what + ")", x.has(what), want[what]);
        }
    }

    private static void has() {
        Edge.of(6, "How many there are: 0 WORDS, 1 those below THE LIMIT, 2 CELLS, 3 KINDS, 4 METHOD, 5 COLLECTIONS "
            + "that have ended, 6 told as KEPT, 7 rows SEEN, 8 DEEDS that can be undone, 9 whether a SHAPE is "
            + "REMEMBERED.");
        hasAll(new CellSlide(), 0, 0, 0, 0, 0, 0, 0, 0, 0, 0);
        CellSlide x = Check.heap("heap 16;kind p num;kind q ref,ref;cell a p 1;cell b q nil,nil;cell c p 2;root 0 c;");
        hasAll(x, 16, 9, 3, 2, 0, 0, 0, 0, 0, 0);
        Check.due("see()", Edge.see(x, 0, 0, 0, 1, 0, 0, 2, 0, 0), 3);
        Check.due("remember()", x.remember(), 1);
        Check.due("method(1)", x.method(1), true);
        Check.due("collect()", x.collect(), 14);
        hasAll(x, 16, 14, 1, 2, 1, 1, 1, 3, 2, 1);
        for (int n = 2; n <= 21; n++) {
            Check.due("collect()", x.collect(), 14);
        }
        hasAll(x, 16, 14, 1, 2, 1, 21, 20, 3, 20, 1);
        Edge.of(6, "NONE for others.");
        Edge.none("has(10)", x.has(10));
        Edge.none("has(-1)", x.has(-1));
        Edge.none("has(least)", x.has(Integer.MIN_VALUE));
        Edge.none("has(10) without a heap", new CellSlide().has(10));
        Edge.of(6, "(2 while a COLLECTION goes on: as there were when it began.)");
        for (String method : new String[] {"", "method 1;"}) {
            x = Check.heap("heap 16;kind p num,num;kind r ref;cell a p 1,1;cell b r nil;cell c p 2,2;cell d r b;root 0 d;"
                + method);
            Check.due("begin()", x.begin() > 0, true);
            Check.due("undo()", x.undo(), true);
            int left = x.begin();
            while (left > 0) {
                Check.due("has(2) with " + left + " left", x.has(2), 4);
                Check.due("has(1) with " + left + " left", x.has(1), 6);
                left = x.step(1);
            }
            Check.due("has(2) behind it", x.has(2), 2);
            Check.due("has(1) behind it", x.has(1), 12);
            Check.due("begin()", x.begin() > 0, true);
            Check.due("has(2) of the next one", x.has(2), 2);
        }
    }

    private static void word() {
        Edge.of(7, "What an ADDRESS (also of a REGISTER) holds: its sort (what 0): 0 a NUMBER, 1 a POINTER, 2 a HEAD, "
            + "3 a LINK; its number (1): that, the ADDRESS (NONE: nil), the KIND, the ADDRESS.");
        CellSlide x = Check.heap("heap 16;kind o num;kind p num,ref;cell a p 999,nil;root 0 a+1;root 7 5;root 6 a;");
        Edge.words(x, -8, "P14 nil nil nil nil nil P13 N5 N0");
        Edge.words(x, 12, "N0 H1 N999 nil");
        Edge.runs(x, 1, "h = h - 999;");
        Edge.words(x, -1, "N-994");
        Check.due("begin()", x.begin(), 16);
        Check.due("step(8)", x.step(8), 8);
        Edge.words(x, -8, "N999 nil nil nil nil nil H1 N-994");
        Edge.words(x, 13, "L-2 L-8 nil");
        Edge.of(7, "NOTHING when there is none such, without a heap, or for others.");
        int[][] rows = {{16, 0}, {16, 1}, {-9, 0}, {-9, 1}, {0, 2}, {0, -1}, {-8, 2}, {160, 0},
            {Integer.MAX_VALUE, 0}, {Integer.MIN_VALUE, 0}};
        for (int[] row : rows) {
            Check.due("word(" + row[0] + ", " + row[1] + ")", x.word(row[0], row[1]), Check.NOTHING);
        }
        for (int a = -8; a < 2; a++) {
            Check.due("without a heap", new CellSlide().word(a, 0), Check.NOTHING);
            Check.due("without a heap", new CellSlide().word(a, 1), Check.NOTHING);
        }
    }
}
