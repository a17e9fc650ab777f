import java.math.BigInteger;
import java.util.ArrayList;
import java.util.Arrays;
import java.util.HashMap;
import java.util.List;
import java.util.Map;
import java.util.TreeSet;

/**
 * The document's Terms told once more, slowly and in another way: sets that grow until nothing
 * changes, whole copies of the memory for every STEP. Random tests hold the class against it.
 */
final class Model {
    static final int NUMBER = 0;
    static final int POINTER = 1;
    static final int HEAD = 2;
    static final int LINK = 3;

    final int words;
    /** Of each KIND a letter for each FIELD: n, r, w. */
    final String[] kinds;
    int limit;
    int method;
    int[] sort;
    int[] number;
    int ended = 0;
    List<int[]> kept = new ArrayList<>();

    Model(int words, String... kinds) {
        this.words = words;
        this.kinds = kinds;
        limit = words;
        sort = new int[words + 8];
        number = new int[words + 8];
        for (int r = -8; r < 0; r++) {
            put(r, POINTER, -1);
        }
    }

    Model(Model m) {
        words = m.words;
        kinds = m.kinds;
        limit = m.limit;
        method = m.method;
        sort = m.sort.clone();
        number = m.number.clone();
        ended = m.ended;
        kept = new ArrayList<>(m.kept);
    }

    void put(int address, int newSort, int newNumber) {
        sort[address + 8] = newSort;
        number[address + 8] = newNumber;
    }

    int sort(int address) {
        return sort[address + 8];
    }

    int number(int address) {
        return number[address + 8];
    }

    boolean points(int address) {
        return sort(address) == POINTER && number(address) >= 0;
    }

    void copy(int from, int to) {
        put(to, sort(from), number(from));
    }

    int size(int kind) {
        return kinds[kind].length() + 1;
    }

    List<Integer> cells() {
        List<Integer> all = new ArrayList<>();
        for (int a = limit; a < words; a += size(number(a))) {
            all.add(a);
        }
        return all;
    }

    int cellOf(int address) {
        int cell = -1;
        for (int c : cells()) {
            if (c <= address && address < words) {
                cell = c;
            }
        }
        return address < 0 ? -1 : cell;
    }

    char field(int cell, int f) {
        return kinds[number(cell)].charAt(f);
    }

    int fields(int cell) {
        return kinds[number(cell)].length();
    }

    int newCell(int kind) {
        limit -= size(kind);
        put(limit, HEAD, kind);
        for (int f = 0; f < kinds[kind].length(); f++) {
            if (kinds[kind].charAt(f) == 'n') {
                put(limit + 1 + f, NUMBER, 0);
            } else {
                put(limit + 1 + f, POINTER, -1);
            }
        }
        return limit;
    }

    /** As in a RUN: behind a COLLECTION if it must be; -1 without room even so. */
    int newCellOrCollect(int kind) {
        if (limit < size(kind)) {
            collect();
        }
        return limit < size(kind) ? -1 : newCell(kind);
    }

    TreeSet<Integer> liveCells(int noRegister, int noCell) {
        TreeSet<Integer> live = new TreeSet<>();
        int before = -1;
        while (before != live.size()) {
            before = live.size();
            for (int r = 0; r < 8; r++) {
                if (r != noRegister && points(r - 8)) {
                    live.add(cellOf(number(r - 8)));
                }
            }
            for (int c : new ArrayList<>(live)) {
                for (int f = 0; c != noCell && f < fields(c); f++) {
                    if (field(c, f) == 'r' && points(c + 1 + f)) {
                        live.add(cellOf(number(c + 1 + f)));
                    }
                }
            }
        }
        live.remove(noCell);
        return live;
    }

    List<Integer> wordsOf(TreeSet<Integer> cells) {
        List<Integer> all = new ArrayList<>();
        for (int c : cells) {
            for (int w = 0; w <= fields(c); w++) {
                all.add(c + w);
            }
        }
        return all;
    }

    List<Integer> liveWords() {
        return wordsOf(liveCells(-1, -1));
    }

    int keeps(int register) {
        return liveWords().size() - wordsOf(liveCells(register, -1)).size();
    }

    int retains(int cell) {
        return liveWords().size() - wordsOf(liveCells(-1, cell)).size();
    }

    int newPlace(List<Integer> live, int address) {
        int at = live.indexOf(address);
        return at < 0 ? -1 : words - live.size() + at;
    }

    /** Rows of where a BLOCK begins, its WORDS, by how much it goes up; from the lowest on. */
    List<int[]> blocks(List<Integer> live) {
        List<int[]> all = new ArrayList<>();
        for (int a : live) {
            if (live.contains(a - 1)) {
                all.get(all.size() - 1)[1]++;
            } else {
                all.add(new int[] {a, 1, newPlace(live, a) - a});
            }
        }
        return all;
    }

    /** STEPS: the memory behind each number of them, and what stage() tells of the next one. */
    static final class Steps {
        final List<Model> states = new ArrayList<>();
        final List<int[]> stages = new ArrayList<>();

        void add(Model m, int stage, int address) {
            states.add(new Model(m));
            stages.add(new int[] {stage, address});
        }
    }

    Steps steps(int byMethod) {
        Steps steps = new Steps();
        Model m = new Model(this);
        List<Integer> live = liveWords();
        steps.add(m, 1, CellSlide.NOTHING);
        int weak = m.mark(live);
        if (byMethod == 0) {
            m.stepsByThreads(steps, live);
        } else {
            m.stepsByTable(steps, live);
        }
        steps.add(m, 8, CellSlide.NOTHING);
        m.kept.add(new int[] {live.size(), words - limit - live.size(), byMethod, weak});
        if (m.kept.size() > 20) {
            m.kept.remove(0);
        }
        m.ended++;
        m.limit = words - live.size();
        for (int a = 0; a < m.limit; a++) {
            m.put(a, NUMBER, 0);
        }
        steps.add(m, 0, 0);
        return steps;
    }

    private int mark(List<Integer> live) {
        int weak = 0;
        for (int c : liveCells(-1, -1)) {
            for (int f = 0; f < fields(c); f++) {
                int a = c + 1 + f;
                if (field(c, f) == 'w' && points(a) && !live.contains(number(a))) {
                    put(a, POINTER, -1);
                    weak++;
                }
            }
        }
        return weak;
    }

    private void thread(int w) {
        int t = number(w);
        copy(t, w);
        put(t, LINK, w);
    }

    private void unthread(int t, int x) {
        while (sort(t) == LINK) {
            int u = number(t);
            copy(u, t);
            put(u, POINTER, x);
        }
    }

    private void stepsByThreads(Steps steps, List<Integer> live) {
        for (int r = -8; r < 0; r++) {
            steps.add(this, 2, r);
            if (points(r)) {
                thread(r);
            }
        }
        for (int w : live) {
            steps.add(this, 3, w);
            unthread(w, newPlace(live, w));
            if (points(w) && number(w) > w) {
                thread(w);
            } else if (points(w) && number(w) == w) {
                put(w, POINTER, newPlace(live, w));
            }
        }
        for (int i = live.size() - 1; i >= 0; i--) {
            int w = live.get(i);
            int x = newPlace(live, w);
            steps.add(this, 4, w);
            unthread(w, x);
            copy(w, x);
            if (points(x) && number(x) < w) {
                thread(x);
            }
        }
    }

    private void stepsByTable(Steps steps, List<Integer> live) {
        List<int[]> blocks = blocks(live);
        List<Integer> table = new ArrayList<>();
        for (int b = blocks.size() - 1; b >= 0; b--) {
            int[] block = blocks.get(b);
            steps.add(this, 5, block[0]);
            if (block[2] == 0) {
                continue;
            }
            Model old = new Model(this);
            for (int w = 0; w < block[1]; w++) {
                put(block[0] + block[2] + w, old.sort(block[0] + w), old.number(block[0] + w));
            }
            table.add(0, block[2]);
            table.add(0, block[0]);
            for (int w = 0; w < block[2]; w++) {
                put(block[0] + w, NUMBER, w < table.size() ? table.get(w) : 0);
            }
        }
        for (int r = -8; r < 0; r++) {
            steps.add(this, 6, r);
            raise(r, blocks);
        }
        for (int a = words - live.size(); a < words; a++) {
            steps.add(this, 7, a);
            raise(a, blocks);
        }
    }

    private void raise(int address, List<int[]> blocks) {
        int target = number(address);
        for (int[] b : blocks) {
            if (points(address) && b[0] <= target && target < b[0] + b[1]) {
                put(address, POINTER, target + b[2]);
                return;
            }
        }
    }

    void collect() {
        List<Model> states = steps(method).states;
        Model last = states.get(states.size() - 1);
        limit = last.limit;
        sort = last.sort;
        number = last.number;
        kept = last.kept;
        ended = last.ended;
    }

    int chain(List<Integer> live, int address, int pass) {
        int n = 0;
        for (int a = -8; a < words; a++) {
            boolean from = a < 0 || live.contains(a);
            if (from && points(a) && number(a) == address && (pass == 0 ? a < address : a > address)) {
                n++;
            }
        }
        return n;
    }

    /** How far each CELL is from one, by ref FIELDS; counted until nothing changes. */
    private int distance(int from, int to) {
        Map<Integer, Integer> far = new HashMap<>();
        far.put(from, 0);
        for (boolean again = true; again;) {
            again = false;
            for (int c : new ArrayList<>(far.keySet())) {
                for (int f = 0; f < fields(c); f++) {
                    if (field(c, f) == 'r' && points(c + 1 + f)) {
                        int next = cellOf(number(c + 1 + f));
                        if (far.getOrDefault(next, 9999) > far.get(c) + 1) {
                            far.put(next, far.get(c) + 1);
                            again = true;
                        }
                    }
                }
            }
        }
        return far.getOrDefault(to, 9999);
    }

    /** THE WAY to a CELL; empty when it is not LIVE. */
    List<Integer> way(int cell) {
        List<Integer> way = new ArrayList<>();
        int best = 9999;
        int at = -1;
        for (int r = 0; r < 8; r++) {
            if (points(r - 8)) {
                int d = distance(cellOf(number(r - 8)), cell);
                if (d < best) {
                    best = d;
                    at = cellOf(number(r - 8));
                    way.clear();
                    way.add(r);
                }
            }
        }
        while (at != -1 && at != cell) {
            for (int f = 0; f < fields(at); f++) {
                boolean ref = field(at, f) == 'r' && points(at + 1 + f);
                if (ref && distance(cellOf(number(at + 1 + f)), cell) == best - 1) {
                    way.add(f);
                    at = cellOf(number(at + 1 + f));
                    best--;
                    break;
                }
            }
        }
        return way;
    }

    List<Integer> found() {
        List<Integer> all = new ArrayList<>();
        for (int r = -8; r < 0; r++) {
            if (points(r) && !all.contains(cellOf(number(r)))) {
                all.add(cellOf(number(r)));
            }
        }
        for (int i = 0; i < all.size(); i++) {
            int c = all.get(i);
            for (int f = 0; f < fields(c); f++) {
                int a = c + 1 + f;
                if (field(c, f) == 'r' && points(a) && !all.contains(cellOf(number(a)))) {
                    all.add(cellOf(number(a)));
                }
            }
        }
        return all;
    }

    String shape() {
        List<Integer> found = found();
        StringBuilder text = new StringBuilder();
        for (int r = -8; r < 0; r++) {
            shape(text, found, r);
        }
        for (int c : found) {
            text.append("kind ").append(number(c)).append(':');
            for (int f = 0; f < fields(c); f++) {
                shape(text, found, c + 1 + f);
            }
        }
        return text.toString();
    }

    private void shape(StringBuilder text, List<Integer> found, int address) {
        if (sort(address) == NUMBER) {
            text.append(number(address)).append(';');
            return;
        }
        int as = points(address) ? found.indexOf(cellOf(number(address))) : -1;
        if (as < 0) {
            text.append("nil;");
        } else {
            text.append('#').append(as).append('+').append(number(address) - found.get(as)).append(';');
        }
    }

    List<Integer> image() {
        List<Integer> bytes = new ArrayList<>(Arrays.asList(method, limit));
        for (int a = -8; a < words; a++) {
            if (a < 0 || a >= limit) {
                bytes.add(sort(a));
                bytes.add((number(a) + 1000) / 256);
                bytes.add((number(a) + 1000) % 256);
            }
        }
        int c = 173;
        for (int b : bytes) {
            c = (3 * c + b) % 251;
        }
        bytes.add(c);
        return bytes;
    }

    /** The seed and its DRAWS. */
    static final class Seed {
        BigInteger x = BigInteger.ONE;

        int draw(int m) {
            x = x.multiply(BigInteger.valueOf(1103515245)).add(BigInteger.valueOf(12345))
                .mod(BigInteger.TWO.pow(31));
            return x.divide(BigInteger.valueOf(64)).mod(BigInteger.valueOf(m)).intValue();
        }
    }

    void change(Seed seed) {
        int r = seed.draw(8) - 8;
        int how = seed.draw(4);
        if (how == 0) {
            int cell = newCellOrCollect(seed.draw(kinds.length));
            if (cell >= 0) {
                put(r, POINTER, cell);
            }
        } else if (how == 3) {
            if (points(r)) {
                int cell = cellOf(number(r));
                put(r, POINTER, cell + seed.draw(fields(cell) + 1));
            } else {
                put(r, POINTER, -1);
            }
        } else {
            int s = seed.draw(8) - 8;
            if (points(s)) {
                int cell = cellOf(number(s));
                int f = seed.draw(fields(cell));
                if (how == 2) {
                    copy(cell + 1 + f, r);
                } else if (field(cell, f) == 'n') {
                    put(cell + 1 + f, NUMBER, seed.draw(1000));
                } else if (sort(r) == POINTER) {
                    copy(r, cell + 1 + f);
                }
            }
        }
    }
}
