import java.util.ArrayDeque;
import java.util.ArrayList;
import java.util.Deque;
import java.util.HashMap;
import java.util.List;
import java.util.Map;
import java.util.Random;

/** Random heaps and random calls, every answer held against Model: promises 4 to 41. */
final class ModelTest {
    private static final String[] NAMES = {"p", "quux", "R", "sixlet", "weaker", "t"};

    private final Random random;
    private final String[] names;
    private final CellSlide x = new CellSlide();
    private Model m;
    private final Deque<Object[]> past = new ArrayDeque<>();
    private final Model.Seed seed = new Model.Seed();
    private Model.Steps going = null;
    private int done = 0;
    private String remembered = null;
    private List<int[]> seen = new ArrayList<>();

    private ModelTest(long number) {
        random = new Random(number);
        String[] kinds = new String[1 + random.nextInt(6)];
        for (int k = 0; k < kinds.length; k++) {
            StringBuilder fields = new StringBuilder();
            for (int f = 1 + random.nextInt(6); f > 0; f--) {
                fields.append("nrrrw".charAt(random.nextInt(5)));
            }
            kinds[k] = fields.toString();
        }
        names = java.util.Arrays.copyOf(NAMES, kinds.length);
        m = new Model(16 + random.nextInt(random.nextBoolean() ? 40 : 145), kinds);
    }

    public static void main(String[] args) {
        int runs = args.length > 0 ? Integer.parseInt(args[0]) : 150;
        for (int number = 1; number <= runs && Check.clean(); number++) {
            ModelTest test = new ModelTest(number);
            test.tellHeap();
            for (int deed = 0; deed < 40 && Check.clean(); deed++) {
                test.deed();
                test.askAll();
            }
            if (!Check.clean()) {
                System.out.println("in random run " + number);
            }
        }
        Check.end();
    }

    // ---- the heap

    private void tellHeap() {
        StringBuilder text = new StringBuilder("heap ").append(m.words).append(';');
        int statements = 1;
        for (int k = 0; k < names.length; k++) {
            text.append("kind ").append(names[k]);
            for (int f = 0; f < m.kinds[k].length(); f++) {
                char c = m.kinds[k].charAt(f);
                text.append(f == 0 ? ' ' : ',').append(c == 'n' ? "num" : c == 'r' ? "ref" : "weak");
            }
            text.append(";\n");
            statements++;
        }
        Map<String, Integer> cells = new HashMap<>();
        for (; statements < 60 && text.length() < 1500 && random.nextInt(30) > 0; statements++) {
            int how = random.nextInt(6);
            int kind = random.nextInt(names.length);
            if (how < 3 && m.limit >= m.size(kind)) {
                String name = "c" + (char) ('a' + cells.size() % 26) + (char) ('a' + cells.size() / 26);
                text.append("cell ").append(name).append(' ').append(names[kind]).append(' ');
                int cell = m.newCell(kind);
                cells.put(name, cell);
                for (int f = 0; f < m.fields(cell); f++) {
                    text.append(f == 0 ? "" : " , ");
                    item(text, cells, m.field(cell, f), cell + 1 + f);
                }
            } else if (how == 3 && !cells.isEmpty()) {
                String name = any(cells);
                int cell = cells.get(name);
                int f = random.nextInt(m.fields(cell));
                text.append("set ").append(name).append('.').append(f).append(' ');
                item(text, cells, m.field(cell, f), cell + 1 + f);
            } else if (how == 4) {
                m.method = random.nextInt(2);
                text.append("method ").append(m.method);
            } else {
                int r = random.nextInt(8);
                text.append("root ").append(r).append(' ');
                item(text, cells, "nrr".charAt(random.nextInt(3)), r - 8);
            }
            text.append(';');
        }
        Check.text(x, text.toString());
        Check.due("heap() of " + text, x.heap(), statements);
        Check.due("fault(0)", x.fault(0), 0);
    }

    private String any(Map<String, Integer> cells) {
        List<String> all = new ArrayList<>(cells.keySet());
        all.sort(null);
        return all.get(random.nextInt(all.size()));
    }

    private void item(StringBuilder text, Map<String, Integer> cells, char sort, int address) {
        if (sort == 'n') {
            int n = random.nextInt(1000);
            text.append(n);
            m.put(address, Model.NUMBER, n);
        } else if (cells.isEmpty() || random.nextInt(4) == 0) {
            text.append("nil");
            m.put(address, Model.POINTER, -1);
        } else {
            String name = any(cells);
            int offset = random.nextInt(m.fields(cells.get(name)) + 1);
            text.append(name);
            if (offset > 0 || random.nextBoolean()) {
                text.append('+').append(offset);
            }
            m.put(address, Model.POINTER, cells.get(name) + offset);
        }
    }

    // ---- deeds

    private void keep() {
        past.addLast(new Object[] {new Model(m), going, done});
        if (past.size() > 20) {
            past.removeFirst();
        }
    }

    private void deed() {
        if (going != null) {
            deedWhileGoing();
            return;
        }
        switch (random.nextInt(11)) {
            case 0: case 1: case 2: runs(); break;
            case 3: collects(); break;
            case 4: begins(); break;
            case 5: method(); break;
            case 6: case 7: chance(); break;
            case 8: undo(); break;
            case 9: image(); break;
            default: sees(); break;
        }
    }

    private void deedWhileGoing() {
        int how = random.nextInt(12);
        if (how == 0) {
            undo();
            return;
        }
        if (how == 1) {
            refusedWhileGoing();
            return;
        }
        keep();
        int n = 1 + random.nextInt(random.nextInt(4) == 0 ? 400 : 20);
        int all = going.states.size() - 1;
        done = Math.min(done + n, all);
        Check.due("step(" + n + ")", x.step(n), all - done);
        m = new Model(going.states.get(done));
        if (done == all) {
            going = null;
        }
    }

    private void refusedWhileGoing() {
        int fault = x.fault(0);
        int refused = x.status(2);
        Check.due("run()", Check.run(x, "?"), Check.NONE);
        Check.due("fault(0)", x.fault(0), fault);
        Check.due("remember()", x.remember(), Check.NONE);
        Check.due("status(2)", x.status(2), refused + 2);
        Check.bytes(x, 0, 0, 3, 232);
        Check.due("see()", x.see(), Check.NONE);
        Check.due("collect()", x.collect(), Check.NONE);
        Check.due("begin()", x.begin(), Check.NONE);
        Check.due("step(0)", x.step(0), Check.NONE);
        Check.due("step(401)", x.step(401), Check.NONE);
        Check.due("method()", x.method(1 - m.method), false);
        Check.due("chance(1)", x.chance(1), Check.NONE);
        Check.due("image()", x.image(), Check.NONE);
    }

    private void runs() {
        Program program = new Program(random, names, 12);
        keep();
        program.perform(m);
        Check.runs(x, program.text.toString(), program.acts, program.failure, program.failedAt);
    }

    private void collects() {
        keep();
        m.collect();
        Check.due("collect()", x.collect(), m.limit);
    }

    private void begins() {
        keep();
        going = m.steps(m.method);
        done = 0;
        Check.due("begin()", x.begin(), going.states.size() - 1);
    }

    private void method() {
        int method = random.nextInt(4) - 1;
        boolean can = method == 1 - m.method;
        if (can) {
            keep();
            m.method = method;
        }
        Check.due("method(" + method + ")", x.method(method), can);
    }

    private void chance() {
        if (random.nextInt(4) == 0) {
            int s = random.nextInt() & Integer.MAX_VALUE;
            seed.x = java.math.BigInteger.valueOf(s);
            Check.due("seed", x.seed(s), true);
        }
        int n = 1 + random.nextInt(50);
        keep();
        int before = m.ended;
        for (int i = 0; i < n; i++) {
            m.change(seed);
        }
        Check.due("chance(" + n + ")", x.chance(n), m.ended - before);
    }

    private void undo() {
        for (int n = random.nextInt(random.nextInt(5) == 0 ? 25 : 4); n >= 0; n--) {
            Object[] last = past.pollLast();
            Check.due("undo()", x.undo(), last != null);
            if (last != null) {
                m = (Model) last[0];
                going = (Model.Steps) last[1];
                done = (Integer) last[2];
            }
        }
    }

    private void image() {
        List<Integer> want = m.image();
        Check.due("image()", x.image(), want.size());
        int[] bytes = new int[want.size()];
        for (int k = 0; k < bytes.length; k++) {
            bytes[k] = x.octet(k);
            Check.due("octet(" + k + ")", bytes[k], want.get(k));
        }
        Check.due("octet behind", x.octet(bytes.length), Check.NONE);
        Check.due("octet(-1)", x.octet(-1), Check.NONE);
        boolean good = random.nextBoolean();
        if (!good) {
            bytes[random.nextInt(bytes.length)] ^= 1 + random.nextInt(255);
            int c = 173;
            for (int k = 0; k < bytes.length - 1; k++) {
                c = (3 * c + bytes[k]) % 251;
            }
            if (random.nextBoolean()) {
                bytes[bytes.length - 1] = c;
            }
            // A byte that changed by 251 leaves the last one right: such bytes may be an IMAGE, too.
            Model other = bytes[bytes.length - 1] == c ? decode(bytes) : null;
            good = other != null;
            if (good) {
                m = other;
            }
        }
        Check.bytes(x, bytes);
        Check.due("on()", x.on(), good);
        if (good) {
            past.clear();
            m.kept = new ArrayList<>();
            m.ended = 0;
        }
    }

    /** What bytes whose last one is right tell; null if that is no IMAGE. */
    private Model decode(int[] b) {
        int limit = b[1];
        if (b[0] > 1 || limit > m.words || b.length != 3 + 3 * (8 + m.words - limit)) {
            return null;
        }
        Model n = new Model(m.words, m.kinds);
        n.method = b[0];
        n.limit = limit;
        int at = 2;
        for (int a = -8; a < n.words; a++) {
            if (a < 0 || a >= limit) {
                n.put(a, b[at], b[at + 1] * 256 + b[at + 2] - 1000);
                at += 3;
            }
        }
        int next = limit;
        int cell = -1;
        for (int a = -8; a < n.words; a++) {
            int v = n.number(a);
            boolean number = n.sort(a) == Model.NUMBER && v >= -999 && v <= 999;
            boolean pointer = n.sort(a) == Model.POINTER && (v == -1 || v >= limit && v < n.words);
            if (a < 0) {
                if (!number && !pointer) {
                    return null;
                }
            } else if (a == next) {
                if (n.sort(a) != Model.HEAD || v < 0 || v >= n.kinds.length) {
                    return null;
                }
                cell = a;
                next = a + n.size(v);
            } else if (a > limit) {
                char field = n.kinds[n.number(cell)].charAt(a - cell - 1);
                if (field == 'n' ? !number : !pointer) {
                    return null;
                }
            }
        }
        return next == n.words ? n : null;
    }

    private void sees() {
        List<Model> states = m.steps(m.method).states;
        Model state = states.get(random.nextInt(states.size()));
        List<int[]> rows = new ArrayList<>();
        for (int n = 1 + random.nextInt(random.nextBoolean() ? 2 : 16); n > 0; n--) {
            int a = random.nextInt(m.words + 8) - 8;
            rows.add(new int[] {a, state.sort(a), state.number(a)});
        }
        if (random.nextInt(4) == 0) {
            int[] row = rows.get(random.nextInt(rows.size()));
            row[random.nextInt(3)] += random.nextInt(5) - 2;
        }
        if (random.nextInt(8) == 0) {
            int[] row = rows.get(random.nextInt(rows.size()));
            row[1] = random.nextInt(5);
            row[2] = random.nextInt(2200) - 1000;
        }
        int[] bytes = new int[rows.size() * 4];
        boolean good = true;
        for (int r = 0; r < rows.size(); r++) {
            int[] row = rows.get(r);
            good &= isRow(row);
            bytes[4 * r] = row[0] & 255;
            bytes[4 * r + 1] = row[1] & 255;
            bytes[4 * r + 2] = (row[2] + 1000) >> 8 & 255;
            bytes[4 * r + 3] = (row[2] + 1000) & 255;
        }
        Check.bytes(x, bytes);
        Check.due("see()", x.see(), good ? rows.size() : Check.NONE);
        if (good) {
            seen = rows;
        }
    }

    private boolean isRow(int[] row) {
        int n = row[2];
        if (row[0] < -8 || row[0] >= m.words) {
            return false;
        }
        switch (row[1]) {
            case 0: return n >= -999 && n <= 999;
            case 1: return n >= -1 && n < m.words;
            case 2: return n >= 0 && n < m.kinds.length;
            case 3: return n >= -8 && n < m.words;
            default: return false;
        }
    }

    // ---- answers

    private void askAll() {
        Check.due("has(0)", x.has(0), m.words);
        Check.due("has(1)", x.has(1), m.limit);
        Check.due("has(2)", x.has(2), (going == null ? m : going.states.get(0)).cells().size());
        Check.due("has(3)", x.has(3), m.kinds.length);
        Check.due("has(4)", x.has(4), m.method);
        Check.due("has(5)", x.has(5), m.ended);
        Check.due("has(6)", x.has(6), m.kept.size());
        Check.due("has(7)", x.has(7), seen.size());
        Check.due("has(8)", x.has(8), past.size());
        Check.due("has(9)", x.has(9), remembered == null ? 0 : 1);
        for (int a = -8; a < m.words; a++) {
            Check.holds(x, a, m.sort(a), m.number(a));
        }
        for (int k = 0; k < m.kept.size(); k++) {
            for (int what = 0; what < 4; what++) {
                Check.due("kept(" + k + ", " + what + ")", x.kept(k, what), m.kept.get(k)[what]);
            }
        }
        Check.due("kept behind", x.kept(m.kept.size(), 0), Check.NONE);
        askStage();
        if (going != null) {
            askWhileGoing();
            return;
        }
        askCells();
        askWays();
        askShape();
        if (random.nextInt(4) == 0) {
            askThen();
        }
    }

    private void askStage() {
        boolean on = going != null;
        Check.due("stage(0)", x.stage(0), on ? going.stages.get(done)[0] : Check.NOTHING);
        Check.due("stage(1)", x.stage(1), on ? going.stages.get(done)[1] : Check.NOTHING);
        Check.due("stage(2)", x.stage(2), on ? done : Check.NOTHING);
        Check.due("stage(3)", x.stage(3), on ? going.states.size() - 1 - done : Check.NOTHING);
    }

    private void askWhileGoing() {
        int a = m.words - 1;
        int[] answers = {x.cell(0, 0), x.cellOf(a), x.goes(a), x.comes(a), x.block(0, 0), x.chain(a, 0),
            x.longest(0), x.steps(0), x.room(0, 0), x.far(a), x.way(a, 0), x.keeps(0), x.retains(a),
            x.best(0), x.found(-1), x.alike(), x.then(-1), x.tells(0)};
        for (int i = 0; i < answers.length; i++) {
            Check.due("answer " + i + " while a collection goes on", answers[i], Check.NONE);
        }
    }

    private void askCells() {
        List<Integer> live = m.liveWords();
        List<Integer> cells = m.cells();
        for (int k = 0; k < cells.size(); k++) {
            int c = cells.get(k);
            Check.due("cell(" + k + ", 0)", x.cell(k, 0), c);
            Check.due("cell(" + k + ", 1)", x.cell(k, 1), m.number(c));
            Check.due("cell(" + k + ", 2)", x.cell(k, 2), m.fields(c) + 1);
            Check.due("cell(" + k + ", 3)", x.cell(k, 3), live.contains(c) ? 1 : 0);
        }
        Check.due("cell behind", x.cell(cells.size(), 0), Check.NONE);
        int[] longest = new int[2];
        for (int a = -9; a <= m.words; a++) {
            Check.due("cellOf(" + a + ")", x.cellOf(a), m.cellOf(a));
            int to = m.newPlace(live, a);
            Check.due("goes(" + a + ")", x.goes(a), to);
            int from = a - (m.words - live.size());
            boolean comes = a >= 0 && from >= 0 && from < live.size();
            Check.due("comes(" + a + ")", x.comes(a), comes ? live.get(from) : Check.NONE);
            for (int pass = 0; pass < 2; pass++) {
                int chain = to < 0 ? Check.NONE : m.chain(live, a, pass);
                Check.due("chain(" + a + ", " + pass + ")", x.chain(a, pass), chain);
                longest[pass] = Math.max(longest[pass], chain);
            }
        }
        Check.due("longest(0)", x.longest(0), longest[0]);
        Check.due("longest(1)", x.longest(1), longest[1]);
        List<int[]> blocks = m.blocks(live);
        for (int k = 0; k < blocks.size(); k++) {
            for (int what = 0; what < 3; what++) {
                Check.due("block(" + k + ", " + what + ")", x.block(k, what), blocks.get(k)[what]);
            }
        }
        Check.due("block behind", x.block(blocks.size(), 0), Check.NONE);
        Check.due("steps(0)", x.steps(0), m.steps(0).states.size() - 1);
        Check.due("steps(1)", x.steps(1), m.steps(1).states.size() - 1);
        for (int k = 0; k < m.kinds.length; k++) {
            Check.due("room(" + k + ", 0)", x.room(k, 0), m.limit / m.size(k));
            Check.due("room(" + k + ", 1)", x.room(k, 1), (m.words - live.size()) / m.size(k));
        }
    }

    private void askWays() {
        int best = 0;
        for (int r = 0; r < 8; r++) {
            Check.due("keeps(" + r + ")", x.keeps(r), m.keeps(r));
            best = m.keeps(r) > m.keeps(best) ? r : best;
        }
        Check.due("best(0)", x.best(0), best);
        Check.due("best(1)", x.best(1), m.keeps(best));
        List<Integer> cells = m.cells();
        for (int n = 0; n < 4 && !cells.isEmpty(); n++) {
            int c = cells.get(random.nextInt(cells.size()));
            int a = c + random.nextInt(m.fields(c) + 1);
            List<Integer> way = m.way(c);
            Check.due("far(" + a + ")", x.far(a), way.size() - 1);
            for (int k = -1; k <= way.size(); k++) {
                int want = k < 0 || k >= way.size() ? Check.NONE : way.get(k);
                Check.due("way(" + a + ", " + k + ")", x.way(a, k), want);
            }
            Check.due("retains(" + a + ")", x.retains(a), m.retains(c));
        }
        List<Integer> found = m.found();
        Check.due("found(-1)", x.found(-1), found.size());
        for (int k = 0; k < found.size(); k++) {
            Check.due("found(" + k + ")", x.found(k), found.get(k));
        }
        Check.due("found behind", x.found(found.size()), Check.NONE);
    }

    private void askShape() {
        int alike = remembered == null ? Check.NONE : remembered.equals(m.shape()) ? 1 : 0;
        Check.due("alike()", x.alike(), alike);
        if (random.nextInt(6) == 0) {
            Check.due("remember()", x.remember(), m.found().size());
            remembered = m.shape();
            Check.due("alike()", x.alike(), 1);
        }
    }

    private void askThen() {
        List<Model> states = m.steps(m.method).states;
        List<Integer> then = new ArrayList<>();
        for (int n = 0; n < states.size(); n++) {
            boolean all = true;
            for (int[] row : seen) {
                Model s = states.get(n);
                all &= s.sort(row[0]) == row[1] && s.number(row[0]) == row[2];
            }
            if (all) {
                then.add(n);
            }
        }
        Check.due("then(-1)", x.then(-1), then.size());
        for (int k = 0; k < then.size(); k += 1 + then.size() / 5) {
            Check.due("then(" + k + ")", x.then(k), then.get(k));
        }
        Check.due("then behind", x.then(then.size()), Check.NONE);
        int telling = Check.NONE;
        int fewest = Check.NONE;
        for (int a = 0; a < m.words && !then.isEmpty(); a++) {
            Map<String, Integer> counts = new HashMap<>();
            int most = 0;
            for (int n : then) {
                String as = states.get(n).sort(a) + ":" + states.get(n).number(a);
                most = Math.max(most, counts.merge(as, 1, Integer::sum));
            }
            if (telling < 0 || most < fewest) {
                telling = a;
                fewest = most;
            }
        }
        Check.due("tells(0)", x.tells(0), telling);
        Check.due("tells(1)", x.tells(1), fewest);
    }
}
