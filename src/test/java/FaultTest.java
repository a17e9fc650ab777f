import java.util.ArrayList;
import java.util.List;
import java.util.Random;
import java.util.Set;

/**
 * Texts of heaps and of runs with random bytes, words and signs put in, taken out or changed: which FAULT
 * they have and where is held against a reader of its own (Terms I and III told once more; promises 4, 5, 30).
 */
final class FaultTest {
    private static final Set<String> OWN = Set.of("heap", "kind", "cell", "set", "root", "method", "num", "ref", "weak",
        "nil", "new", "slide", "repeat", "when");
    private static final String[] HEAPS = {
        "heap 24;kind p num,ref;kind w weak,ref;cell a p 5,nil;cell b p 7,a+1;cell c w a,b;root 0 a;root 1 b+2;root 2 9;",
        "heap 16; kind sixlet num , num,num,num ,num,num; cell x sixlet 1,2,3,4,5,6; cell y sixlet 1,2,3,4,5,6; method 1;",
        "heap 160;kind a num;kind b ref;kind c weak;kind d num;kind e num;kind f num;cell g b g;set g.0 g+1;root 7 g;",
        "heap 16;" + "method 0;".repeat(59),
        "heap 16;kind t num,num,num;cell a t 1,2,3;cell b t 1,2,3;cell c t 1,2,3;cell d t 1,2,3;cell e t 1,2,3;",
        "heap 30;kind p ref,weak;\ncell q p nil,q+2;\nset q.0 q;\nset q.1 nil;\nroot 3 999;\nroot 4 nil;\nmethod 0;"};
    private static final String[] RUNS = {
        "a = new p; a.0 = 5; b = a.1.1 + 2; c = c - 999; slide;", "repeat 99 [ repeat 3 [ a=b; ] when a = nil [ slide; ] ]",
        "when a.0 + 1 = b - 2 [ when 1 = nil [ repeat 0 [ repeat 7 [ d = 999; ] ] ] ]",
        "h = g.0.1.2.3.4.5; h.0.1.2.3.4.5 = h.0.1.2.3.4.5 + 0;", "a=nil;b=new w;c=1;\n d = e . 0 - 3 ;"};
    private static final String[] BITS = {" ", "\n", "\t", ";", ",", ".", "+", "-", "=", "[", "]", "0", "1", "8", "16", "99",
        "100", "160", "161", "999", "1000", "a", "b", "i", "p", "q", "w", "ab", "abcdef", "abcdefg", "nil", "new", "num",
        "ref", "weak", "heap", "kind", "cell", "set", "root", "method", "slide", "repeat", "when", "repeats", "Heap", "?",
        ";;", "[[", "a.0", "a+1", "kind z num;", "cell z p 1,nil;", "cell z sixlet 1,2,3,4,5,6;", "root 5 5;", "repeat 1 [", "when 1=1 [", "] ", "\u00e9"};

    private final String text;
    private int at = 0;
    private int end = 0;
    private int wordEnd = -1;

    /** What a text is told to have: thrown where it is found. */
    private static final class Fault extends RuntimeException {
        private static final long serialVersionUID = 1;
        final int number;
        final int place;

        Fault(int number, int place) {
            super(null, null, false, false);
            this.number = number;
            this.place = place;
        }
    }

    private FaultTest(String text) {
        this.text = text;
    }

    public static void main(String[] args) {
        int many = args.length > 0 ? Integer.parseInt(args[0]) : 30000;
        Random random = new Random(20);
        int[] heapFaults = new int[6];
        int[] runFaults = new int[6];
        for (int n = 0; n < many; n++) {
            heapFaults[heap(changed(random, HEAPS[random.nextInt(HEAPS.length)]))]++;
            runFaults[run(changed(random, RUNS[random.nextInt(RUNS.length)]))]++;
        }
        for (int fault = 0; fault <= 5; fault++) {
            Check.due("there were heaps with FAULT " + fault, heapFaults[fault] > 0, true);
            Check.due("there were runs with FAULT " + fault, runFaults[fault] > 0, true);
        }
        Check.end();
    }

    private static String changed(Random random, String text) {
        StringBuilder s = new StringBuilder(text);
        for (int n = random.nextInt(4); n > 0; n--) {
            int at = random.nextInt(s.length() + 1);
            String bit = BITS[random.nextInt(BITS.length)];
            switch (random.nextInt(6)) {
                case 0: s.insert(at, bit); break;
                case 1: s.replace(at, Math.min(s.length(), at + 1 + random.nextInt(3)), ""); break;
                case 2: s.replace(at, Math.min(s.length(), at + 1), bit); break;
                case 3: s.insert(at, " " + bit + " "); break;
                case 4: replaceWord(s, at, bit); break;
                default: s.setLength(random.nextInt(4) == 0 ? at : s.length()); break;
            }
        }
        return s.length() > 1600 ? s.substring(0, 1600) : s.toString();
    }

    /** The word, number or sign around a place becomes another one. */
    private static void replaceWord(StringBuilder s, int at, String bit) {
        int from = at;
        while (from > 0 && Character.isLetterOrDigit(s.charAt(from - 1))) {
            from--;
        }
        int to = at;
        while (to < s.length() && Character.isLetterOrDigit(s.charAt(to))) {
            to++;
        }
        s.replace(from, to, bit);
    }

    private static int heap(String text) {
        FaultTest reader = new FaultTest(text);
        CellSlide x = new CellSlide();
        Check.text(x, text);
        int got = x.heap();
        try {
            Check.due("heap() of " + text, got, reader.readHeap());
            Check.due("fault(0) of " + text, x.fault(0), 0);
            Check.due("fault(1) of " + text, x.fault(1), Check.NONE);
            return 0;
        } catch (Fault due) {
            Check.due("heap() of " + text, got, Check.NONE);
            Check.due("fault(0) of " + text, x.fault(0), due.number);
            Check.due("fault(1) of " + text, x.fault(1), due.place);
            return due.number;
        }
    }

    private static int run(String text) {
        FaultTest reader = new FaultTest(text);
        CellSlide x = Check.heap("heap 24;kind p num,ref;kind w weak,ref;cell i p 1,i;root 0 i;root 6 i;root 7 i;");
        Check.text(x, text);
        int got = x.run();
        try {
            reader.readActs(0);
            Check.due("run() of " + text, got >= 0, true);
            Check.due("fault(0) of " + text, x.fault(0), 0);
            return 0;
        } catch (Fault due) {
            Check.due("run() of " + text, got, Check.NONE);
            Check.due("fault(0) of " + text, x.fault(0), due.number);
            Check.due("fault(1) of " + text, x.fault(1), due.place);
            return due.number;
        }
    }

    // ---- words, numbers, signs

    /** The next one, whole: empty at the end of the text. It lies from at up to end. */
    private String next() {
        at = end;
        while (at < text.length() && (text.charAt(at) == ' ' || text.charAt(at) == '\n')) {
            at++;
        }
        end = at;
        while (end < text.length() && isSort(text.charAt(end), text.charAt(at))) {
            end++;
        }
        if (end == at && at < text.length()) {
            end++;
        }
        return text.substring(at, end);
    }

    private String peek() {
        int from = end;
        String one = next();
        end = from;
        return one;
    }

    private static boolean isSort(char c, char first) {
        return isDigit(first) ? isDigit(c) : isLetter(first) && isLetter(c);
    }

    private static boolean isDigit(char c) {
        return c >= '0' && c <= '9';
    }

    private static boolean isLetter(char c) {
        return c >= 'a' && c <= 'z' || c >= 'A' && c <= 'Z';
    }

    private String word() {
        String one = next();
        if (one.isEmpty() || !isLetter(one.charAt(0)) || at == wordEnd) {
            throw new Fault(1, at);
        }
        wordEnd = end;
        return one;
    }

    private String name() {
        String one = word();
        if (OWN.contains(one)) {
            throw new Fault(1, at);
        }
        if (one.length() > 6) {
            throw new Fault(1, at + 6);
        }
        return one;
    }

    private int number(int least, int most) {
        String one = next();
        if (one.isEmpty() || !isDigit(one.charAt(0)) || at == wordEnd) {
            throw new Fault(1, at);
        }
        wordEnd = end;
        if (one.length() > 3) {
            throw new Fault(1, at + 3);
        }
        int n = Integer.parseInt(one);
        if (n < least || n > most) {
            throw new Fault(2, at);
        }
        return n;
    }

    private void sign(String sign) {
        if (!next().equals(sign)) {
            throw new Fault(1, at);
        }
    }

    private boolean isNumberNext() {
        String one = peek();
        return !one.isEmpty() && isDigit(one.charAt(0));
    }

    // ---- a heap

    private final List<String> kinds = new ArrayList<>();
    private final List<String> fieldsOfKinds = new ArrayList<>();
    private final List<String> cells = new ArrayList<>();
    private final List<String> fieldsOfCells = new ArrayList<>();
    private int free = 0;

    private int readHeap() {
        int n = 0;
        while (!peek().isEmpty()) {
            if (n == 60) {
                peek();
                throw new Fault(5, at);
            }
            String first = word();
            if (first.equals("heap") != (n == 0)) {
                throw new Fault(1, at);
            }
            statement(first);
            sign(";");
            n++;
        }
        if (n == 0) {
            throw new Fault(1, text.length());
        }
        return n;
    }

    private void statement(String first) {
        switch (first) {
            case "heap": free = number(16, 160); break;
            case "kind": kind(); break;
            case "cell": cell(); break;
            case "set": set(); break;
            case "root": number(0, 7); item('a'); break;
            case "method": number(0, 1); break;
            default: throw new Fault(1, at);
        }
    }

    private String newName() {
        String name = name();
        if (kinds.contains(name) || cells.contains(name)) {
            throw new Fault(3, at);
        }
        return name;
    }

    private void kind() {
        if (kinds.size() == 6) {
            throw new Fault(5, at);
        }
        String name = newName();
        StringBuilder fields = new StringBuilder();
        do {
            if (fields.length() > 0) {
                sign(",");
            }
            if (fields.length() == 6) {
                throw new Fault(peek().isEmpty() ? 1 : 5, peekAt());
            }
            String field = word();
            if (!field.equals("num") && !field.equals("ref") && !field.equals("weak")) {
                throw new Fault(1, at);
            }
            fields.append(field.charAt(0));
        } while (peek().equals(","));
        kinds.add(name);
        fieldsOfKinds.add(fields.toString());
    }

    private int peekAt() {
        peek();
        return at;
    }

    private void cell() {
        String name = newName();
        int kind = kinds.indexOf(name());
        if (kind < 0) {
            throw new Fault(3, at);
        }
        String fields = fieldsOfKinds.get(kind);
        if (free < fields.length() + 1) {
            throw new Fault(4, at);
        }
        free -= fields.length() + 1;
        cells.add(name);
        fieldsOfCells.add(fields);
        for (int f = 0; f < fields.length(); f++) {
            if (f > 0) {
                sign(",");
            }
            item(fields.charAt(f));
        }
    }

    private void set() {
        String fields = fieldsOfCells.get(oldCell(name()));
        sign(".");
        item(fields.charAt(number(0, fields.length() - 1)));
    }

    private int oldCell(String name) {
        int cell = cells.indexOf(name);
        if (cell < 0) {
            throw new Fault(3, at);
        }
        return cell;
    }

    /** Of a field n, r, w; of a root, which may be any, a. */
    private void item(char field) {
        if (field == 'n' || field == 'a' && isNumberNext()) {
            number(0, 999);
            return;
        }
        if (peek().equals("nil") && at != wordEnd) {
            word();
            return;
        }
        int cell = oldCell(name());
        if (peek().equals("+")) {
            sign("+");
            number(0, fieldsOfCells.get(cell).length());
        }
    }

    // ---- a run: its heap has kinds p, w

    private void readActs(int open) {
        while (!peek().isEmpty() && !(open > 0 && peek().equals("]"))) {
            String first = word();
            if (first.equals("slide")) {
                sign(";");
            } else if (first.equals("repeat")) {
                number(0, 99);
                inBrackets(open);
            } else if (first.equals("when")) {
                taken();
                sign("=");
                taken();
                inBrackets(open);
            } else {
                path(first);
                sign("=");
                if (peek().equals("new")) {
                    made();
                } else {
                    taken();
                }
                sign(";");
            }
        }
    }

    private void inBrackets(int open) {
        sign("[");
        if (open == 4) {
            throw new Fault(4, at);
        }
        readActs(open + 1);
        sign("]");
    }

    private void path(String register) {
        if (register.length() != 1 || register.charAt(0) < 'a' || register.charAt(0) > 'h') {
            throw new Fault(1, at);
        }
        for (int dots = 1; peek().equals("."); dots++) {
            sign(".");
            if (dots == 7) {
                throw new Fault(5, at);
            }
            number(0, 999);
        }
    }

    private void made() {
        word();
        String kind = name();
        if (!kind.equals("p") && !kind.equals("w")) {
            throw new Fault(3, at);
        }
    }

    private void taken() {
        if (isNumberNext()) {
            number(0, 999);
            return;
        }
        String first = word();
        if (first.equals("nil")) {
            return;
        }
        path(first);
        if (peek().equals("+") || peek().equals("-")) {
            next();
            number(0, 999);
        }
    }
}
