import java.util.Arrays;

/**
 * A heap of words whose live cells slide to its high end, by threaded pointers or by a table of
 * breaks that lies in the holes. README.md tells how it is used.
 */
public final class CellSlide {
    public static final int NONE = -1;
    public static final int NOTHING = -1000000;

    private static final int REGISTERS = 8;
    private static final int MAX_WORDS = 160;
    private static final int MAX_CELLS = 80;
    private static final int MAX_KINDS = 6;
    private static final int MAX_FIELDS = 6;
    private static final int MAX_TAPE = 1600;
    private static final int MAX_KEPT = 20;
    private static final int MAX_DEEDS = 20;
    private static final int KEPT_PARTS = 4;

    // What a place holds is ONE number, the base of its sort and its number upon that: so it is
    // copied, compared and counted as a whole.
    private static final int SORT_SHIFT = 11;
    private static final int SORT_MASK = 2047;
    private static final int OFFSET = 1000;
    private static final int NUMBERS = OFFSET;
    private static final int POINTERS = (1 << SORT_SHIFT) + OFFSET;
    private static final int HEADS = (2 << SORT_SHIFT) + OFFSET;
    private static final int LINKS = (3 << SORT_SHIFT) + OFFSET;
    private static final int ZERO = NUMBERS;
    private static final int NIL = POINTERS - 1;
    private static final int MOST = 999;

    private static final int NUMBER_SORT = 0;
    private static final int POINTER_SORT = 1;
    private static final int HEAD_SORT = 2;

    private static final int NUM_FIELD = 0;
    private static final int REF_FIELD = 1;
    private static final int ANY_ITEM = 3;

    private static final String OWN_WORDS =
        "heap kind cell set root method num ref weak nil new slide repeat when ";
    private static final int OWN_HEAP = 0;
    private static final int OWN_KIND = 1;
    private static final int OWN_CELL = 2;
    private static final int OWN_SET = 3;
    private static final int OWN_ROOT = 4;
    private static final int OWN_METHOD = 5;
    private static final int OWN_NUM = 6;
    private static final int OWN_WEAK = 8;
    private static final int OWN_NIL = 9;
    private static final int OWN_NEW = 10;
    private static final int OWN_SLIDE = 11;
    private static final int OWN_REPEAT = 12;
    private static final int OWN_WHEN = 13;

    private static final int STAGE_MARKS = 1;
    private static final int STAGE_THREAD = 2;
    private static final int STAGE_FORWARD = 3;
    private static final int STAGE_BACKWARD = 4;
    private static final int STAGE_BLOCK = 5;
    private static final int STAGE_REGISTER = 6;
    private static final int STAGE_WORD = 7;
    private static final int STAGE_LAST = 8;

    private final Tape tape = new Tape();
    private final Kinds kinds = new Kinds();
    private final Kinds draftKinds = new Kinds();
    private final State state = new State();
    private final State draft = new State();
    private final Survey survey = new Survey(kinds);
    private final Slide slide = new Slide(kinds, survey);
    private final HeapText heapText = new HeapText(tape, draftKinds, draft);
    private final RunText runText = new RunText(tape, kinds);
    private final Runner runner = new Runner(state, kinds, slide, runText);
    private final Changes changes = new Changes(kinds, slide);
    private final Sight sight = new Sight(slide);
    private final Picture picture = new Picture(kinds);
    private final int[] refused = new int[7];
    private final State[] past = new State[MAX_DEEDS];
    private int pastCount = 0;
    private int pastNext = 0;
    private final int[] remembered = new int[REGISTERS + MAX_WORDS];
    private int rememberedLength = NONE;
    private final int[] shapeNow = new int[REGISTERS + MAX_WORDS];

    public CellSlide() {
        for (int i = 0; i < MAX_DEEDS; i++) {
            past[i] = new State();
        }
    }

    // ---- the tape, the heap

    public int feed(int a, int b, int c, int d, int e) {
        if (tape.length + 20 > MAX_TAPE) {
            return refuse(0);
        }
        tape.append(a);
        tape.append(b);
        tape.append(c);
        tape.append(d);
        tape.append(e);
        return tape.length;
    }

    public boolean end(int n) {
        if (n < 0 || n > tape.length) {
            return deny(0);
        }
        tape.length = n;
        return true;
    }

    public int heap() {
        boolean good = heapText.readHeap();
        tape.length = 0;
        if (!good) {
            return refuse(1);
        }
        kinds.copyFrom(draftKinds);
        state.copyFrom(draft);
        runner.forget();
        sight.rows = 0;
        rememberedLength = NONE;
        pastCount = 0;
        return heapText.statements;
    }

    public int fault(int what) {
        return what == 0 ? tape.fault : what == 1 ? tape.place : NONE;
    }

    public int has(int what) {
        switch (what) {
            case 0: return state.words;
            case 1: return state.limit;
            case 2: return state.going ? state.cells : kinds.countCells(state);
            case 3: return kinds.count;
            case 4: return state.method;
            case 5: return state.ended;
            case 6: return state.keptCount;
            case 7: return sight.rows;
            case 8: return pastCount;
            case 9: return rememberedLength == NONE ? 0 : 1;
            default: return NONE;
        }
    }

    public int word(int address, int what) {
        if (address < -REGISTERS || address >= state.words || state.words == 0) {
            return NOTHING;
        }
        int held = state.at(address);
        return what == 0 ? sortOf(held) : what == 1 ? numberOf(held) : NOTHING;
    }

    public int stage(int what) {
        if (!state.going) {
            return NOTHING;
        }
        switch (what) {
            case 0: return slide.stageOf(state);
            case 1: return slide.stageAddress(state);
            case 2: return state.done;
            case 3: return slide.allSteps(state) - state.done;
            default: return NOTHING;
        }
    }

    public int kept(int k, int what) {
        if (k < 0 || k >= state.keptCount || what < 0 || what >= KEPT_PARTS) {
            return NONE;
        }
        return state.kept[k * KEPT_PARTS + what];
    }

    // ---- cells

    public int cell(int k, int what) {
        int begins = ready() ? kinds.cellAt(state, k) : NONE;
        if (begins == NONE) {
            return NONE;
        }
        int head = state.at(begins);
        switch (what) {
            case 0: return begins;
            case 1: return numberOf(head);
            case 2: return kinds.wordsOf(head);
            case 3: return isLive(begins) ? 1 : 0;
            default: return NONE;
        }
    }

    public int cellOf(int address) {
        return inCell(address) ? state.headOf(address) : NONE;
    }

    public int goes(int address) {
        if (!inCell(address)) {
            return NONE;
        }
        slide.plan(state);
        return slide.newPlace(state, address);
    }

    public int comes(int address) {
        if (!inHeap(address)) {
            return NONE;
        }
        slide.plan(state);
        int first = state.words - state.liveCount;
        return address < first ? NONE : state.live[address - first];
    }

    public int block(int k, int what) {
        if (!ready()) {
            return NONE;
        }
        slide.plan(state);
        if (k < 0 || k >= state.blocks) {
            return NONE;
        }
        int first = slide.blockFromTop(state, state.blocks - 1 - k);
        switch (what) {
            case 0: return state.live[first];
            case 1: return slide.blockEnd(state, first) - first;
            case 2: return slide.goesUp(state, first);
            default: return NONE;
        }
    }

    public int chain(int address, int pass) {
        if (pass < 0 || pass > 1 || !isLive(address)) {
            return NONE;
        }
        survey.countThreads(state, pass);
        return survey.threads[address];
    }

    public int longest(int pass) {
        if (pass < 0 || pass > 1 || !ready()) {
            return NONE;
        }
        survey.look(state, NONE, NONE);
        survey.countThreads(state, pass);
        int most = 0;
        for (int a = state.limit; a < state.words; a++) {
            if (survey.isLiveWord(a)) {
                most = Math.max(most, survey.threads[a]);
            }
        }
        return most;
    }

    public int steps(int method) {
        if (method < 0 || method > 1 || !ready()) {
            return NONE;
        }
        slide.plan(state);
        return slide.stepsBy(state, method);
    }

    public int room(int kind, int what) {
        if (!ready() || kind < 0 || kind >= kinds.count || what < 0 || what > 1) {
            return NONE;
        }
        int free = state.limit;
        if (what == 1) {
            survey.look(state, NONE, NONE);
            free = state.words - survey.liveWords;
        }
        return free / (kinds.fields[kind] + 1);
    }

    // ---- what keeps what

    public int far(int address) {
        return isLive(address) ? survey.far[survey.foundAs(address)] : NONE;
    }

    public int way(int address, int k) {
        if (k < 0 || !isLive(address)) {
            return NONE;
        }
        return survey.wayTo(survey.foundAs(address), k);
    }

    public int keeps(int register) {
        if (!ready() || register < 0 || register >= REGISTERS) {
            return NONE;
        }
        return survey.keptBy(state, register, NONE);
    }

    public int retains(int address) {
        if (!inCell(address)) {
            return NONE;
        }
        return survey.keptBy(state, NONE, state.headOf(address));
    }

    public int best(int what) {
        if (!ready() || what < 0 || what > 1) {
            return NONE;
        }
        int register = 0;
        int most = NONE;
        for (int r = 0; r < REGISTERS; r++) {
            int words = survey.keptBy(state, r, NONE);
            if (words > most) {
                most = words;
                register = r;
            }
        }
        return what == 0 ? register : most;
    }

    public int found(int k) {
        if (!ready()) {
            return NONE;
        }
        survey.look(state, NONE, NONE);
        if (k == NONE) {
            return survey.count;
        }
        return k < 0 || k >= survey.count ? NONE : survey.order[k];
    }

    public int remember() {
        if (!ready()) {
            return refuse(2);
        }
        survey.look(state, NONE, NONE);
        rememberedLength = survey.writeShape(state, remembered);
        return survey.count;
    }

    public int alike() {
        if (!ready() || rememberedLength == NONE) {
            return NONE;
        }
        survey.look(state, NONE, NONE);
        if (survey.writeShape(state, shapeNow) != rememberedLength) {
            return 0;
        }
        for (int i = 0; i < rememberedLength; i++) {
            if (shapeNow[i] != remembered[i]) {
                return 0;
            }
        }
        return 1;
    }

    // ---- what was seen

    public int see() {
        boolean good = ready() && sight.readRows(tape, state.words, kinds.count);
        tape.length = 0;
        return good ? sight.rows : refuse(1);
    }

    public int then(int k) {
        if (!ready() || k < NONE) {
            return NONE;
        }
        sight.search(state, false);
        if (k == NONE) {
            return sight.hitCount;
        }
        return k >= sight.hitCount ? NONE : sight.hits[k];
    }

    public int tells(int what) {
        if (!ready() || what < 0 || what > 1) {
            return NONE;
        }
        sight.search(state, true);
        sight.pickTelling(state.words);
        return what == 0 ? sight.telling : sight.mostLeft;
    }

    // ---- deeds

    public int run() {
        boolean good = ready() && runText.readRun();
        tape.length = 0;
        if (!good) {
            return refuse(2);
        }
        keepForUndo();
        return runner.perform();
    }

    public int failed(int what) {
        return what == 0 ? runner.failure : what == 1 ? runner.failedAt : NONE;
    }

    public int collect() {
        if (!ready()) {
            return refuse(3);
        }
        keepForUndo();
        slide.whole(state);
        return state.limit;
    }

    public int begin() {
        if (!ready()) {
            return refuse(3);
        }
        keepForUndo();
        slide.plan(state);
        state.going = true;
        return slide.allSteps(state);
    }

    public int step(int n) {
        if (!state.going || n < 1 || n > 400) {
            return refuse(3);
        }
        keepForUndo();
        for (int i = 0; i < n && state.going; i++) {
            slide.advance(state);
        }
        return state.going ? slide.allSteps(state) - state.done : 0;
    }

    public boolean method(int method) {
        if (!ready() || method < 0 || method > 1 || method == state.method) {
            return deny(3);
        }
        keepForUndo();
        state.method = method;
        return true;
    }

    public int chance(int n) {
        if (!ready() || n < 1 || n > 50 || kinds.count == 0) {
            return refuse(4);
        }
        keepForUndo();
        int before = state.ended;
        for (int i = 0; i < n; i++) {
            changes.change(state);
        }
        return state.ended - before;
    }

    public boolean undo() {
        if (pastCount == 0) {
            return deny(5);
        }
        pastNext = (pastNext + MAX_DEEDS - 1) % MAX_DEEDS;
        pastCount--;
        state.copyFrom(past[pastNext]);
        return true;
    }

    public boolean seed(int seed) {
        if (seed < 0) {
            return deny(6);
        }
        changes.seed = seed;
        return true;
    }

    // ---- images, refusals

    public int image() {
        if (!ready()) {
            return NONE;
        }
        picture.write(state);
        return picture.length;
    }

    public int octet(int k) {
        return k < 0 || k >= picture.length ? NONE : picture.bytes[k];
    }

    public boolean on() {
        boolean good = state.words > 0 && picture.readInto(draft, tape, state.words);
        tape.length = 0;
        if (!good) {
            return deny(6);
        }
        state.copyFrom(draft);
        pastCount = 0;
        return true;
    }

    public int status(int what) {
        return what < 0 || what >= refused.length ? NONE : refused[what];
    }

    // ---- what the calls share

    private int refuse(int which) {
        refused[which]++;
        return NONE;
    }

    private boolean deny(int which) {
        refused[which]++;
        return false;
    }

    private boolean ready() {
        return state.words > 0 && !state.going;
    }

    private boolean inHeap(int address) {
        return ready() && address >= 0 && address < state.words;
    }

    private boolean inCell(int address) {
        return inHeap(address) && address >= state.limit;
    }

    private boolean isLive(int address) {
        if (!inCell(address)) {
            return false;
        }
        survey.look(state, NONE, NONE);
        return survey.isLiveWord(address);
    }

    private void keepForUndo() {
        past[pastNext].copyFrom(state);
        pastNext = (pastNext + 1) % MAX_DEEDS;
        pastCount = Math.min(pastCount + 1, MAX_DEEDS);
    }

    private static int sortOf(int held) {
        return held >> SORT_SHIFT;
    }

    private static int numberOf(int held) {
        return (held & SORT_MASK) - OFFSET;
    }

    /** Where a POINTER points; NONE of nil and of what is no POINTER. */
    private static int pointsTo(int held) {
        return held >= POINTERS && held < HEADS ? held - POINTERS : NONE;
    }

    /** All that a DEED changes, so that undoing one is copying one of these back. */
    private static final class State {
        int words = 0;
        int limit = 0;
        int method = 0;
        final int[] held = new int[REGISTERS + MAX_WORDS];

        // The COLLECTION that goes on. Its LIVE WORDS, rising, are kept: once words are threaded or
        // moved they can't be found out again. NEW PLACES and BLOCKS follow from them.
        boolean going = false;
        int done = 0;
        final int[] live = new int[MAX_WORDS];
        int liveCount = 0;
        int blocks = 0;
        int cells = 0;
        int clearedWeak = 0;

        int ended = 0;
        int keptCount = 0;
        final int[] kept = new int[MAX_KEPT * KEPT_PARTS];

        void copyFrom(State other) {
            words = other.words;
            limit = other.limit;
            method = other.method;
            System.arraycopy(other.held, 0, held, 0, held.length);
            going = other.going;
            done = other.done;
            System.arraycopy(other.live, 0, live, 0, live.length);
            liveCount = other.liveCount;
            blocks = other.blocks;
            cells = other.cells;
            clearedWeak = other.clearedWeak;
            ended = other.ended;
            keptCount = other.keptCount;
            System.arraycopy(other.kept, 0, kept, 0, kept.length);
        }

        void clear(int newWords) {
            words = newWords;
            limit = newWords;
            method = 0;
            going = false;
            ended = 0;
            keptCount = 0;
            Arrays.fill(held, ZERO);
            Arrays.fill(held, 0, REGISTERS, NIL);
        }

        int at(int address) {
            return held[REGISTERS + address];
        }

        void put(int address, int what) {
            held[REGISTERS + address] = what;
        }

        /** Where the CELL of a WORD begins; only while no COLLECTION goes on. */
        int headOf(int address) {
            for (int a = address; a >= limit && a >= address - MAX_FIELDS; a--) {
                if (held[REGISTERS + a] >= HEADS) {
                    return a;
                }
            }
            return NONE;
        }

        /** Makes a NEW CELL for which there must be room. */
        int addCell(Kinds kinds, int kind) {
            int fields = kinds.fields[kind];
            limit -= fields + 1;
            put(limit, HEADS + kind);
            for (int f = 0; f < fields; f++) {
                put(limit + 1 + f, kinds.sortOfField(kind, f) == NUM_FIELD ? ZERO : NIL);
            }
            return limit;
        }

        /** The last STEP of a COLLECTION. */
        void settle() {
            int deadWords = words - limit - liveCount;
            limit = words - liveCount;
            Arrays.fill(held, REGISTERS, REGISTERS + limit, ZERO);
            going = false;
            ended++;
            if (keptCount == MAX_KEPT) {
                System.arraycopy(kept, KEPT_PARTS, kept, 0, (MAX_KEPT - 1) * KEPT_PARTS);
                keptCount--;
            }
            int row = keptCount * KEPT_PARTS;
            kept[row] = liveCount;
            kept[row + 1] = deadWords;
            kept[row + 2] = method;
            kept[row + 3] = clearedWeak;
            keptCount++;
        }
    }

    /** The KINDS of a HEAP. */
    private static final class Kinds {
        int count = 0;
        final long[] names = new long[MAX_KINDS];
        final int[] fields = new int[MAX_KINDS];
        final int[] sorts = new int[MAX_KINDS * MAX_FIELDS];

        void copyFrom(Kinds other) {
            count = other.count;
            System.arraycopy(other.names, 0, names, 0, names.length);
            System.arraycopy(other.fields, 0, fields, 0, fields.length);
            System.arraycopy(other.sorts, 0, sorts, 0, sorts.length);
        }

        int sortOfField(int kind, int field) {
            return sorts[kind * MAX_FIELDS + field];
        }

        int named(long name) {
            for (int k = 0; k < count; k++) {
                if (names[k] == name) {
                    return k;
                }
            }
            return NONE;
        }

        /** The WORDS of a CELL with that HEAD; never 0, so that every walk over CELLS ends. */
        int wordsOf(int head) {
            int kind = head - HEADS;
            return kind < 0 || kind >= count ? 1 : fields[kind] + 1;
        }

        int countCells(State s) {
            int n = 0;
            for (int a = s.limit; a < s.words; a += wordsOf(s.at(a))) {
                n++;
            }
            return n;
        }

        int cellAt(State s, int k) {
            int n = 0;
            for (int a = s.limit; a < s.words; a += wordsOf(s.at(a))) {
                if (n == k) {
                    return a;
                }
                n++;
            }
            return NONE;
        }
    }

    /** The bytes that were fed, and what reads words, numbers and signs of them. */
    private static final class Tape {
        final int[] bytes = new int[MAX_TAPE];
        int length = 0;
        int at = 0;
        int tokenAt = 0;
        int tokenEnd = NONE;
        int own = NONE;
        long name = 0;
        int number = 0;
        int fault = 0;
        int place = NONE;

        void append(int four) {
            for (int shift = 24; shift >= 0 && length < MAX_TAPE; shift -= 8) {
                bytes[length] = (four >> shift) & 255;
                length++;
            }
        }

        void rewind() {
            at = 0;
            tokenEnd = NONE;
            fault = 0;
            place = NONE;
        }

        /** Answers false, so that a reader can end with it. */
        boolean wrong(int newFault, int newPlace) {
            fault = newFault;
            place = newPlace;
            return false;
        }

        /** The next byte that is no blank; NONE at the end. */
        int peek() {
            while (at < length && (bytes[at] == 32 || bytes[at] == 10)) {
                at++;
            }
            return at < length ? bytes[at] : NONE;
        }

        boolean takesSign(int sign) {
            if (peek() != sign) {
                return false;
            }
            at++;
            return true;
        }

        boolean needsSign(int sign) {
            if (peek() != sign) {
                return wrong(1, at);
            }
            at++;
            return true;
        }

        /** A word that touches the number ahead of it lacks its blank: tokenEnd tells. */
        boolean takesWord() {
            if (!isLetter(peek()) || at == tokenEnd) {
                return wrong(1, at);
            }
            tokenAt = at;
            while (at < length && isLetter(bytes[at])) {
                at++;
            }
            tokenEnd = at;
            own = whichOwnWord();
            return true;
        }

        boolean isName() {
            if (own != NONE) {
                return wrong(1, tokenAt);
            }
            if (tokenEnd - tokenAt > 6) {
                return wrong(1, tokenAt + 6);
            }
            name = 0;
            for (int i = tokenAt; i < tokenEnd; i++) {
                name = name * 128 + bytes[i];
            }
            return true;
        }

        boolean takesNumber(int least, int most) {
            if (!isDigit(peek()) || at == tokenEnd) {
                return wrong(1, at);
            }
            tokenAt = at;
            number = 0;
            while (at < length && at < tokenAt + 3 && isDigit(bytes[at])) {
                number = number * 10 + bytes[at] - '0';
                at++;
            }
            tokenEnd = at;
            if (at < length && isDigit(bytes[at])) {
                return wrong(1, at);
            }
            return number >= least && number <= most || wrong(2, tokenAt);
        }

        /** The REGISTER that the latest word names; NONE of none. */
        int register() {
            int letter = bytes[tokenAt] - 'a';
            return tokenEnd - tokenAt == 1 && letter >= 0 && letter < REGISTERS ? letter : NONE;
        }

        static boolean isDigit(int b) {
            return b >= '0' && b <= '9';
        }

        static boolean isLetter(int b) {
            return b >= 'a' && b <= 'z' || b >= 'A' && b <= 'Z';
        }

        private int whichOwnWord() {
            int size = tokenEnd - tokenAt;
            int index = 0;
            int matched = 0;
            boolean same = true;
            for (int i = 0; i < OWN_WORDS.length(); i++) {
                char c = OWN_WORDS.charAt(i);
                if (c == ' ') {
                    if (same && matched == size) {
                        return index;
                    }
                    index++;
                    matched = 0;
                    same = true;
                } else {
                    same = same && matched < size && bytes[tokenAt + matched] == c;
                    matched++;
                }
            }
            return NONE;
        }
    }

    /** Reads the text of a HEAP into drafts, so that all stays when it has a FAULT. */
    private static final class HeapText {
        private static final int MAX_STATEMENTS = 60;

        final Tape tape;
        final Kinds kinds;
        final State state;
        final long[] cellNames = new long[MAX_CELLS];
        final int[] cellBegins = new int[MAX_CELLS];
        int cellCount = 0;
        int statements = 0;
        int item = NIL;

        HeapText(Tape tape, Kinds kinds, State state) {
            this.tape = tape;
            this.kinds = kinds;
            this.state = state;
        }

        boolean readHeap() {
            tape.rewind();
            kinds.count = 0;
            cellCount = 0;
            state.clear(0);
            for (statements = 0; tape.peek() != NONE; statements++) {
                if (statements == MAX_STATEMENTS) {
                    return tape.wrong(5, tape.at);
                }
                if (!tape.takesWord() || !statement() || !tape.needsSign(';')) {
                    return false;
                }
            }
            return statements > 0 || tape.wrong(1, tape.at);
        }

        private boolean statement() {
            if ((tape.own == OWN_HEAP) != (statements == 0)) {
                return tape.wrong(1, tape.tokenAt);
            }
            switch (tape.own) {
                case OWN_HEAP: return heapStatement();
                case OWN_KIND: return kindStatement();
                case OWN_CELL: return cellStatement();
                case OWN_SET: return setStatement();
                case OWN_ROOT: return rootStatement();
                case OWN_METHOD: return methodStatement();
                default: return tape.wrong(1, tape.tokenAt);
            }
        }

        private boolean heapStatement() {
            if (!tape.takesNumber(16, MAX_WORDS)) {
                return false;
            }
            state.clear(tape.number);
            return true;
        }

        private boolean kindStatement() {
            int kind = kinds.count;
            if (kind == MAX_KINDS) {
                return tape.wrong(5, tape.tokenAt);
            }
            if (!takesNewName()) {
                return false;
            }
            kinds.names[kind] = tape.name;
            for (int n = 0; n < MAX_FIELDS; n++) {
                if (!tape.takesWord()) {
                    return false;
                }
                if (tape.own < OWN_NUM || tape.own > OWN_WEAK) {
                    return tape.wrong(1, tape.tokenAt);
                }
                kinds.sorts[kind * MAX_FIELDS + n] = tape.own - OWN_NUM;
                if (!tape.takesSign(',')) {
                    kinds.fields[kind] = n + 1;
                    kinds.count++;
                    return true;
                }
            }
            return tape.wrong(tape.peek() == NONE ? 1 : 5, tape.at);
        }

        private boolean cellStatement() {
            if (!takesNewName()) {
                return false;
            }
            long name = tape.name;
            if (!tape.takesWord() || !tape.isName()) {
                return false;
            }
            int kind = kinds.named(tape.name);
            if (kind == NONE) {
                return tape.wrong(3, tape.tokenAt);
            }
            if (state.limit < kinds.fields[kind] + 1 || cellCount == MAX_CELLS) {
                return tape.wrong(4, tape.tokenAt);
            }
            int begins = state.addCell(kinds, kind);
            // Its NAME is there ahead of its ITEMS: one of these may point to the CELL itself.
            cellNames[cellCount] = name;
            cellBegins[cellCount] = begins;
            cellCount++;
            for (int f = 0; f < kinds.fields[kind]; f++) {
                if (f > 0 && !tape.needsSign(',') || !takesItem(kinds.sortOfField(kind, f))) {
                    return false;
                }
                state.put(begins + 1 + f, item);
            }
            return true;
        }

        private boolean setStatement() {
            if (!tape.takesWord() || !tape.isName()) {
                return false;
            }
            int begins = cellNamed(tape.name);
            if (begins == NONE) {
                return tape.wrong(3, tape.tokenAt);
            }
            int kind = state.at(begins) - HEADS;
            if (!tape.needsSign('.') || !tape.takesNumber(0, kinds.fields[kind] - 1)) {
                return false;
            }
            int field = tape.number;
            if (!takesItem(kinds.sortOfField(kind, field))) {
                return false;
            }
            state.put(begins + 1 + field, item);
            return true;
        }

        private boolean rootStatement() {
            if (!tape.takesNumber(0, REGISTERS - 1)) {
                return false;
            }
            int register = tape.number;
            if (!takesItem(ANY_ITEM)) {
                return false;
            }
            state.put(register - REGISTERS, item);
            return true;
        }

        private boolean methodStatement() {
            if (!tape.takesNumber(0, 1)) {
                return false;
            }
            state.method = tape.number;
            return true;
        }

        private boolean takesNewName() {
            if (!tape.takesWord() || !tape.isName()) {
                return false;
            }
            boolean there = kinds.named(tape.name) != NONE || cellNamed(tape.name) != NONE;
            return !there || tape.wrong(3, tape.tokenAt);
        }

        private int cellNamed(long name) {
            for (int c = 0; c < cellCount; c++) {
                if (cellNames[c] == name) {
                    return cellBegins[c];
                }
            }
            return NONE;
        }

        private boolean takesItem(int sort) {
            int next = tape.peek();
            if (sort == NUM_FIELD || sort == ANY_ITEM && Tape.isDigit(next)) {
                if (!tape.takesNumber(0, MOST)) {
                    return false;
                }
                item = NUMBERS + tape.number;
                return true;
            }
            if (!tape.takesWord()) {
                return false;
            }
            if (tape.own == OWN_NIL) {
                item = NIL;
                return true;
            }
            return tape.isName() && takesPointer();
        }

        private boolean takesPointer() {
            int begins = cellNamed(tape.name);
            if (begins == NONE) {
                return tape.wrong(3, tape.tokenAt);
            }
            item = POINTERS + begins;
            if (tape.takesSign('+')) {
                if (!tape.takesNumber(0, kinds.wordsOf(state.at(begins)) - 1)) {
                    return false;
                }
                item += tape.number;
            }
            return true;
        }
    }

    /** Reads the text of a RUN into code: a RUN is known to be without FAULT ahead of its first ACT. */
    private static final class RunText {
        // SET, place, where its value is, PATH, value | SLIDE, place | AGAIN, its REPEAT
        // REPEAT, place, where it ends, rounds | WHEN, place, where it ends, TAKEN, TAKEN
        static final int SET = 0;
        static final int SLIDE = 1;
        static final int REPEAT = 2;
        static final int AGAIN = 3;
        static final int WHEN = 4;
        // CONSTANT, what it holds | MADE, KIND | FOLLOWED, PATH, whether moved, by how much
        static final int CONSTANT = 0;
        static final int MADE = 1;
        static final int FOLLOWED = 2;
        static final int MAX_OPEN = 4;
        private static final int MAX_DOTS = 6;
        // "a=b;" is the text whose code is longest: ten for four bytes.
        private static final int MAX_CODE = MAX_TAPE / 4 * 10 + 20;

        final Tape tape;
        final Kinds kinds;
        final int[] code = new int[MAX_CODE];
        int size = 0;
        final int[] open = new int[MAX_OPEN];
        int depth = 0;

        RunText(Tape tape, Kinds kinds) {
            this.tape = tape;
            this.kinds = kinds;
        }

        boolean readRun() {
            tape.rewind();
            size = 0;
            depth = 0;
            boolean good = true;
            for (int n = 0; n <= MAX_TAPE && good && tape.peek() != NONE; n++) {
                if (depth > 0 && tape.takesSign(']')) {
                    close();
                    continue;
                }
                if (!tape.takesWord()) {
                    return false;
                }
                switch (tape.own) {
                    case OWN_SLIDE: good = slideAct(); break;
                    case OWN_REPEAT: good = repeatAct(); break;
                    case OWN_WHEN: good = whenAct(); break;
                    default: good = setAct(); break;
                }
            }
            return good && (depth == 0 || tape.wrong(1, tape.at));
        }

        private void emit(int number) {
            if (size < MAX_CODE) {
                code[size] = number;
                size++;
            }
        }

        private boolean slideAct() {
            emit(SLIDE);
            emit(tape.tokenAt);
            return tape.needsSign(';');
        }

        private boolean repeatAct() {
            int opener = size;
            emit(REPEAT);
            emit(tape.tokenAt);
            emit(NONE);
            if (!tape.takesNumber(0, 99)) {
                return false;
            }
            emit(tape.number);
            return opens(opener);
        }

        private boolean whenAct() {
            int opener = size;
            emit(WHEN);
            emit(tape.tokenAt);
            emit(NONE);
            return taken(false) && tape.needsSign('=') && taken(false) && opens(opener);
        }

        private boolean setAct() {
            int act = size;
            emit(SET);
            emit(tape.tokenAt);
            emit(NONE);
            if (!path() || !tape.needsSign('=')) {
                return false;
            }
            code[act + 2] = size;
            return taken(true) && tape.needsSign(';');
        }

        private boolean opens(int opener) {
            if (tape.peek() == '[' && depth == MAX_OPEN) {
                return tape.wrong(4, tape.at);
            }
            if (!tape.needsSign('[')) {
                return false;
            }
            open[depth] = opener;
            depth++;
            return true;
        }

        private void close() {
            depth--;
            int opener = open[depth];
            if (code[opener] == REPEAT) {
                emit(AGAIN);
                emit(opener);
            }
            code[opener + 2] = size;
        }

        /** The REGISTER, which is read already, and what follows it. */
        private boolean path() {
            int register = tape.register();
            if (register == NONE) {
                return tape.wrong(1, tape.tokenAt);
            }
            emit(register);
            int dots = size;
            emit(0);
            for (int n = 0; n <= MAX_DOTS && tape.peek() == '.'; n++) {
                if (n == MAX_DOTS) {
                    return tape.wrong(5, tape.at);
                }
                tape.at++;
                if (!tape.takesNumber(0, MOST)) {
                    return false;
                }
                emit(tape.number);
                code[dots] = n + 1;
            }
            return true;
        }

        private boolean taken(boolean mayBeNew) {
            if (Tape.isDigit(tape.peek())) {
                emit(CONSTANT);
                boolean good = tape.takesNumber(0, MOST);
                emit(NUMBERS + tape.number);
                return good;
            }
            if (!tape.takesWord()) {
                return false;
            }
            if (tape.own == OWN_NIL) {
                emit(CONSTANT);
                emit(NIL);
                return true;
            }
            if (tape.own == OWN_NEW && mayBeNew) {
                return made();
            }
            emit(FOLLOWED);
            return path() && moved();
        }

        private boolean made() {
            if (!tape.takesWord() || !tape.isName()) {
                return false;
            }
            int kind = kinds.named(tape.name);
            emit(MADE);
            emit(kind);
            return kind != NONE || tape.wrong(3, tape.tokenAt);
        }

        private boolean moved() {
            boolean up = tape.takesSign('+');
            boolean down = !up && tape.takesSign('-');
            if (!up && !down) {
                emit(0);
                emit(0);
                return true;
            }
            boolean good = tape.takesNumber(0, MOST);
            emit(1);
            emit(up ? tape.number : -tape.number);
            return good;
        }
    }

    /** Does what a RUN that was read tells. */
    private static final class Runner {
        private static final int MAX_ACTS = 400;
        private static final int MANY = 1000000;

        final State state;
        final Kinds kinds;
        final Slide slide;
        final RunText text;
        final int[] code;
        final int[] roundsLeft = new int[RunText.MAX_OPEN];
        int level = 0;
        int at = 0;
        int acts = 0;
        int failure = 0;
        int failedAt = NONE;

        Runner(State state, Kinds kinds, Slide slide, RunText text) {
            this.state = state;
            this.kinds = kinds;
            this.slide = slide;
            this.text = text;
            this.code = text.code;
        }

        void forget() {
            failure = 0;
            failedAt = NONE;
        }

        /** Answers how many ACTS were done. */
        int perform() {
            forget();
            acts = 0;
            level = 0;
            int next = 0;
            for (int n = 0; n < MANY && failure == 0 && next < text.size; n++) {
                switch (code[next]) {
                    case RunText.SLIDE: next = slideAct(next); break;
                    case RunText.REPEAT: next = enterRepeat(next); break;
                    case RunText.AGAIN: next = nextRound(code[next + 1]); break;
                    case RunText.WHEN: next = whenAct(next); break;
                    default: next = setAct(next); break;
                }
            }
            return acts;
        }

        private void fail(int how, int act) {
            if (failure == 0) {
                failure = how;
                failedAt = code[act + 1];
            }
        }

        private boolean mayBegin(int act) {
            if (acts == MAX_ACTS) {
                fail(6, act);
            }
            return failure == 0;
        }

        private int slideAct(int act) {
            if (mayBegin(act)) {
                slide.whole(state);
                acts++;
            }
            return act + 2;
        }

        private int enterRepeat(int act) {
            if (level < RunText.MAX_OPEN) {
                roundsLeft[level] = code[act + 3];
                level++;
            }
            return nextRound(act);
        }

        private int nextRound(int act) {
            if (level == 0 || roundsLeft[level - 1] == 0) {
                level = Math.max(level - 1, 0);
                return code[act + 2];
            }
            if (mayBegin(act)) {
                roundsLeft[level - 1]--;
                acts++;
            }
            return act + 4;
        }

        private int whenAct(int act) {
            if (!mayBegin(act)) {
                return act;
            }
            at = act + 3;
            int first = take(act);
            int second = failure == 0 ? take(act) : NIL;
            if (failure != 0) {
                return act;
            }
            acts++;
            return first == second ? at : code[act + 2];
        }

        private int setAct(int act) {
            if (!mayBegin(act)) {
                return act;
            }
            at = code[act + 2];
            boolean made = code[at] == RunText.MADE;
            int value = take(act);
            if (made) {
                int begins = slide.freshCell(state, value);
                value = POINTERS + begins;
                if (begins == NONE) {
                    fail(5, act);
                }
            }
            int next = at;
            at = act + 3;
            int target = failure == 0 ? locate(act) : NONE;
            if (failure == 0 && target >= 0 && !fits(target, value)) {
                fail(3, act);
            }
            if (failure == 0) {
                state.put(target, value);
                acts++;
            }
            return next;
        }

        private boolean fits(int target, int value) {
            int begins = state.headOf(target);
            if (begins == NONE) {
                return false;
            }
            int sort = kinds.sortOfField(state.at(begins) - HEADS, target - begins - 1);
            return (sort == NUM_FIELD) == (sortOf(value) == NUMBER_SORT);
        }

        /** What the TAKEN at the cursor holds, of a new one the KIND; the cursor goes behind it. */
        private int take(int act) {
            if (code[at] != RunText.FOLLOWED) {
                at += 2;
                return code[at - 1];
            }
            at++;
            int source = locate(act);
            if (failure != 0) {
                return NIL;
            }
            boolean moved = code[at] == 1;
            int by = code[at + 1];
            at += 2;
            int value = state.at(source);
            return moved ? move(value, by, act) : value;
        }

        private int move(int value, int by, int act) {
            if (sortOf(value) == NUMBER_SORT) {
                return NUMBERS + Math.max(-MOST, Math.min(MOST, numberOf(value) + by));
            }
            int target = pointsTo(value);
            if (target == NONE) {
                fail(4, act);
                return NIL;
            }
            int begins = state.headOf(target);
            int offset = target + by - begins;
            if (offset < 0 || offset >= kinds.wordsOf(state.at(begins))) {
                fail(4, act);
            }
            return value + by;
        }

        /** The ADDRESS of what the PATH at the cursor tells; the cursor goes behind it. */
        private int locate(int act) {
            int address = code[at] - REGISTERS;
            int dots = code[at + 1];
            at += 2;
            for (int n = 0; n < dots && failure == 0; n++) {
                address = fieldOf(state.at(address), code[at], act);
                at++;
            }
            return address;
        }

        private int fieldOf(int value, int field, int act) {
            int target = pointsTo(value);
            if (target == NONE) {
                fail(1, act);
                return NONE;
            }
            int begins = state.headOf(target);
            if (field >= kinds.wordsOf(state.at(begins)) - 1) {
                fail(2, act);
            }
            return begins + 1 + field;
        }
    }

    /** Which CELLS are LIVE, in which order they are FOUND, and by which ways. */
    private static final class Survey {
        final Kinds kinds;
        final int[] begins = new int[MAX_WORDS];
        final int[] foundIndex = new int[MAX_WORDS];
        final int[] order = new int[MAX_CELLS];
        final int[] far = new int[MAX_CELLS];
        final int[] from = new int[MAX_CELLS];
        final int[] by = new int[MAX_CELLS];
        final int[] threads = new int[MAX_WORDS];
        int count = 0;
        int liveWords = 0;
        int without = NONE;

        Survey(Kinds kinds) {
            this.kinds = kinds;
        }

        /** Looks as if that REGISTER, and all that points into the CELL that begins there, held nil. */
        void look(State s, int noRegister, int noCell) {
            Arrays.fill(foundIndex, NONE);
            Arrays.fill(begins, NONE);
            layOut(s);
            without = noCell;
            count = 0;
            liveWords = 0;
            for (int r = 0; r < REGISTERS; r++) {
                if (r != noRegister) {
                    reach(pointsTo(s.held[r]), NONE, r);
                }
            }
            // FOUND ones queue up in order: so each is come to first by the least of its shortest ways.
            for (int i = 0; i < count; i++) {
                int kind = s.held[REGISTERS + order[i]] - HEADS;
                liveWords += kinds.fields[kind] + 1;
                for (int f = 0; f < kinds.fields[kind]; f++) {
                    if (kinds.sortOfField(kind, f) == REF_FIELD) {
                        reach(pointsTo(s.held[REGISTERS + order[i] + 1 + f]), i, f);
                    }
                }
            }
        }

        private void layOut(State s) {
            int cell = NONE;
            for (int a = s.limit; a < s.words; a++) {
                if (s.held[REGISTERS + a] >= HEADS) {
                    cell = a;
                }
                begins[a] = cell;
            }
        }

        private void reach(int target, int source, int step) {
            if (target == NONE || begins[target] == NONE || begins[target] == without) {
                return;
            }
            int cell = begins[target];
            if (foundIndex[cell] != NONE || count == MAX_CELLS) {
                return;
            }
            foundIndex[cell] = count;
            order[count] = cell;
            from[count] = source;
            by[count] = step;
            far[count] = source == NONE ? 0 : far[source] + 1;
            count++;
        }

        boolean isLiveWord(int address) {
            return begins[address] != NONE && foundIndex[begins[address]] != NONE;
        }

        int foundAs(int address) {
            return foundIndex[begins[address]];
        }

        /** Part k of THE WAY, which is told from its end on. */
        int wayTo(int foundCell, int k) {
            int cell = foundCell;
            if (k > far[cell]) {
                return NONE;
            }
            for (int n = far[cell]; n > k; n--) {
                cell = from[cell];
            }
            return by[cell];
        }

        int keptBy(State s, int register, int cell) {
            look(s, NONE, NONE);
            int all = liveWords;
            look(s, register, cell);
            return all - liveWords;
        }

        void countThreads(State s, int pass) {
            Arrays.fill(threads, 0);
            for (int a = pass == 0 ? -REGISTERS : s.limit; a < s.words; a++) {
                if (a >= 0 && (a < s.limit || !isLiveWord(a))) {
                    continue;
                }
                int target = pointsTo(s.at(a));
                if (target != NONE && target != a && (target > a) == (pass == 0)) {
                    threads[target]++;
                }
            }
        }

        /** Writes THE SHAPE and answers its length. */
        int writeShape(State s, int[] shape) {
            int size = 0;
            for (int r = 0; r < REGISTERS; r++) {
                shape[size] = shapeOf(s.held[r]);
                size++;
            }
            for (int i = 0; i < count; i++) {
                int words = kinds.wordsOf(s.at(order[i]));
                for (int w = 0; w < words && size < shape.length; w++) {
                    shape[size] = shapeOf(s.at(order[i] + w));
                    size++;
                }
            }
            return size;
        }

        private int shapeOf(int held) {
            int target = pointsTo(held);
            if (target == NONE) {
                return held;
            }
            if (!isLiveWord(target)) {
                return NIL;
            }
            return POINTERS + foundAs(target) * (MAX_FIELDS + 1) + target - begins[target];
        }
    }

    /** COLLECTIONS, STEP by STEP. */
    private static final class Slide {
        private static final int MAX_CHAIN = REGISTERS + MAX_WORDS;

        final Kinds kinds;
        final Survey survey;

        Slide(Kinds kinds, Survey survey) {
            this.kinds = kinds;
            this.survey = survey;
        }

        /** What is LIVE and how it lies, for a COLLECTION that begins now. */
        void plan(State s) {
            survey.look(s, NONE, NONE);
            s.done = 0;
            s.clearedWeak = 0;
            s.cells = 0;
            s.liveCount = 0;
            s.blocks = 0;
            for (int a = s.limit; a < s.words; a++) {
                if (survey.begins[a] == a) {
                    s.cells++;
                }
                if (survey.isLiveWord(a)) {
                    if (s.liveCount == 0 || s.live[s.liveCount - 1] != a - 1) {
                        s.blocks++;
                    }
                    s.live[s.liveCount] = a;
                    s.liveCount++;
                }
            }
        }

        void whole(State s) {
            plan(s);
            s.going = true;
            int all = allSteps(s);
            for (int n = 0; n < all; n++) {
                advance(s);
            }
        }

        /** Where a NEW CELL begins, behind a COLLECTION if it must be; NONE without room even so. */
        int freshCell(State s, int kind) {
            int need = kinds.fields[kind] + 1;
            if (s.limit < need) {
                whole(s);
            }
            return s.limit < need ? NONE : s.addCell(kinds, kind);
        }

        int stepsBy(State s, int method) {
            return 2 + REGISTERS + s.liveCount + (method == 0 ? s.liveCount : s.blocks);
        }

        int allSteps(State s) {
            return stepsBy(s, s.method);
        }

        int stageOf(State s) {
            int n = s.done - 1;
            if (n < 0) {
                return STAGE_MARKS;
            }
            if (s.method == 0) {
                return n < REGISTERS ? STAGE_THREAD
                    : n < REGISTERS + s.liveCount ? STAGE_FORWARD
                    : n < REGISTERS + 2 * s.liveCount ? STAGE_BACKWARD : STAGE_LAST;
            }
            return n < s.blocks ? STAGE_BLOCK
                : n < s.blocks + REGISTERS ? STAGE_REGISTER
                : n < s.blocks + REGISTERS + s.liveCount ? STAGE_WORD : STAGE_LAST;
        }

        int stageAddress(State s) {
            int n = s.done - 1;
            switch (stageOf(s)) {
                case STAGE_THREAD: return n - REGISTERS;
                case STAGE_FORWARD: return s.live[n - REGISTERS];
                case STAGE_BACKWARD: return s.live[2 * s.liveCount - 1 - (n - REGISTERS)];
                case STAGE_BLOCK: return s.live[blockFromTop(s, n)];
                case STAGE_REGISTER: return n - s.blocks - REGISTERS;
                case STAGE_WORD: return s.words - s.liveCount + n - s.blocks - REGISTERS;
                default: return NOTHING;
            }
        }

        void advance(State s) {
            int address = stageAddress(s);
            switch (stageOf(s)) {
                case STAGE_MARKS: clearWeak(s); break;
                case STAGE_THREAD: threadRegister(s, address); break;
                case STAGE_FORWARD: forward(s, address); break;
                case STAGE_BACKWARD: backward(s, address); break;
                case STAGE_BLOCK: moveBlock(s, blockFromTop(s, s.done - 1)); break;
                case STAGE_REGISTER:
                case STAGE_WORD: raise(s, address); break;
                default: s.settle(); break;
            }
            s.done++;
        }

        private void clearWeak(State s) {
            for (int a = s.limit; a < s.words; a += kinds.wordsOf(s.held[REGISTERS + a])) {
                int kind = s.held[REGISTERS + a] - HEADS;
                if (newPlace(s, a) == NONE) {
                    continue;
                }
                for (int f = 0; f < kinds.fields[kind]; f++) {
                    int target = pointsTo(s.held[REGISTERS + a + 1 + f]);
                    if (target != NONE && newPlace(s, target) == NONE) {
                        // Only a weak FIELD of a LIVE CELL can point to what is not LIVE.
                        s.held[REGISTERS + a + 1 + f] = NIL;
                        s.clearedWeak++;
                    }
                }
            }
        }

        private void threadRegister(State s, int register) {
            int target = pointsTo(s.held[REGISTERS + register]);
            if (target != NONE) {
                thread(s.held, register, target);
            }
        }

        private void forward(State s, int address) {
            int place = newPlace(s, address);
            unthread(s.held, address, place);
            int target = pointsTo(s.held[REGISTERS + address]);
            if (target > address) {
                thread(s.held, address, target);
            } else if (target == address) {
                s.held[REGISTERS + address] = POINTERS + place;
            }
        }

        private void backward(State s, int address) {
            int place = newPlace(s, address);
            unthread(s.held, address, place);
            s.held[REGISTERS + place] = s.held[REGISTERS + address];
            int target = pointsTo(s.held[REGISTERS + place]);
            if (target != NONE && target < address) {
                thread(s.held, place, target);
            }
        }

        private static void thread(int[] held, int from, int to) {
            held[REGISTERS + from] = held[REGISTERS + to];
            held[REGISTERS + to] = LINKS + from;
        }

        private static void unthread(int[] held, int address, int place) {
            int t = REGISTERS + address;
            for (int n = 0; n < MAX_CHAIN && held[t] >= LINKS - REGISTERS; n++) {
                int u = REGISTERS + held[t] - LINKS;
                held[t] = held[u];
                held[u] = POINTERS + place;
            }
        }

        private void moveBlock(State s, int first) {
            int up = goesUp(s, first);
            if (up == 0) {
                return;
            }
            for (int i = blockEnd(s, first) - 1; i >= first; i--) {
                int from = REGISTERS + s.live[i];
                s.held[from + up] = s.held[from];
            }
            int row = REGISTERS + s.live[first];
            int end = row + up;
            // Each BLOCK that goes up has a hole of two WORDS or more right above it: the rows fit.
            for (int i = first; i < s.liveCount && row + 1 < end; i = blockEnd(s, i)) {
                if (goesUp(s, i) > 0) {
                    s.held[row] = NUMBERS + s.live[i];
                    s.held[row + 1] = NUMBERS + goesUp(s, i);
                    row += 2;
                }
            }
            Arrays.fill(s.held, row, end, ZERO);
        }

        private void raise(State s, int address) {
            int target = pointsTo(s.held[REGISTERS + address]);
            if (target != NONE) {
                s.held[REGISTERS + address] = POINTERS + newPlace(s, target);
            }
        }

        /** The NEW PLACE of a WORD; NONE when it is not LIVE. */
        int newPlace(State s, int address) {
            int low = 0;
            int high = s.liveCount - 1;
            while (low <= high) {
                int middle = (low + high) / 2;
                if (s.live[middle] == address) {
                    return s.words - s.liveCount + middle;
                }
                if (s.live[middle] < address) {
                    low = middle + 1;
                } else {
                    high = middle - 1;
                }
            }
            return NONE;
        }

        // A BLOCK is told by where its first WORD stands among the LIVE ones.

        /** The BLOCK that k others lie above. */
        int blockFromTop(State s, int k) {
            int above = 0;
            for (int i = s.liveCount - 1; i > 0; i--) {
                if (s.live[i - 1] != s.live[i] - 1) {
                    if (above == k) {
                        return i;
                    }
                    above++;
                }
            }
            return 0;
        }

        /** Where the BLOCK that follows this one stands. */
        int blockEnd(State s, int first) {
            int i = first + 1;
            while (i < s.liveCount && s.live[i] == s.live[i - 1] + 1) {
                i++;
            }
            return i;
        }

        int goesUp(State s, int first) {
            return s.words - s.liveCount + first - s.live[first];
        }
    }

    /** Rows of what was SEEN, and the numbers of STEPS behind which all is so. */
    private static final class Sight {
        private static final int MAX_ROWS = 16;
        private static final int MAX_STATES = 2 + REGISTERS + 2 * MAX_WORDS + 1;
        private static final int SORTS = 4;

        final Slide slide;
        final State ghost = new State();
        final int[] addresses = new int[MAX_ROWS];
        final int[] values = new int[MAX_ROWS];
        int rows = 0;
        final int[] hits = new int[MAX_STATES];
        int hitCount = 0;
        int telling = NONE;
        int mostLeft = NONE;
        // These two are large, and few objects are ever asked for TELLING.
        int[] words = null;
        int[] alike = null;

        Sight(Slide slide) {
            this.slide = slide;
        }

        boolean readRows(Tape tape, int heapWords, int kindCount) {
            int n = tape.length / 4;
            if (tape.length % 4 != 0 || n < 1 || n > MAX_ROWS) {
                return false;
            }
            for (int r = 0; r < n; r++) {
                if (!isRow(tape.bytes, r * 4, heapWords, kindCount)) {
                    return false;
                }
            }
            for (int r = 0; r < n; r++) {
                addresses[r] = addressOf(tape.bytes[r * 4]);
                values[r] = (tape.bytes[r * 4 + 1] << SORT_SHIFT) + rawNumber(tape.bytes, r * 4 + 2);
            }
            rows = n;
            return true;
        }

        private static int addressOf(int octet) {
            return octet >= 256 - REGISTERS ? octet - 256 : octet;
        }

        private static int rawNumber(int[] bytes, int at) {
            return bytes[at] * 256 + bytes[at + 1];
        }

        private static boolean isRow(int[] bytes, int at, int heapWords, int kindCount) {
            int number = rawNumber(bytes, at + 2) - OFFSET;
            if (addressOf(bytes[at]) >= heapWords) {
                return false;
            }
            switch (bytes[at + 1]) {
                case NUMBER_SORT: return number >= -MOST && number <= MOST;
                case POINTER_SORT: return number >= -1 && number < heapWords;
                case HEAD_SORT: return number >= 0 && number < kindCount;
                case SORTS - 1: return number >= -REGISTERS && number < heapWords;
                default: return false;
            }
        }

        /** Finds THEN, by a COLLECTION of a ghost; keeps its words for TELLING, if asked to. */
        void search(State state, boolean keepWords) {
            if (keepWords && words == null) {
                words = new int[MAX_STATES * MAX_WORDS];
                alike = new int[SORTS << SORT_SHIFT];
            }
            ghost.copyFrom(state);
            slide.plan(ghost);
            ghost.going = true;
            int all = slide.allSteps(ghost);
            hitCount = 0;
            for (int n = 0; n <= all && n < MAX_STATES; n++) {
                if (n > 0) {
                    slide.advance(ghost);
                }
                if (!isAsSeen()) {
                    continue;
                }
                if (keepWords && words != null) {
                    System.arraycopy(ghost.held, REGISTERS, words, hitCount * MAX_WORDS, MAX_WORDS);
                }
                hits[hitCount] = n;
                hitCount++;
            }
        }

        private boolean isAsSeen() {
            for (int r = 0; r < rows; r++) {
                if (ghost.held[REGISTERS + addresses[r]] != values[r]) {
                    return false;
                }
            }
            return true;
        }

        void pickTelling(int heapWords) {
            telling = NONE;
            mostLeft = NONE;
            if (hitCount == 0) {
                return;
            }
            for (int a = 0; a < heapWords; a++) {
                int most = mostAlike(a);
                if (telling == NONE || most < mostLeft) {
                    telling = a;
                    mostLeft = most;
                }
            }
        }

        private int mostAlike(int address) {
            if (words == null || alike == null) {
                return 0;
            }
            int most = 0;
            for (int i = 0; i < hitCount; i++) {
                int value = words[i * MAX_WORDS + address];
                alike[value]++;
                most = Math.max(most, alike[value]);
            }
            for (int i = 0; i < hitCount; i++) {
                alike[words[i * MAX_WORDS + address]] = 0;
            }
            return most;
        }
    }

    /** CHANGES by the seed. */
    private static final class Changes {
        private static final long FACTOR = 1103515245L;
        private static final long SUMMAND = 12345L;
        private static final long SEED_MASK = 0x7fffffffL;

        final Kinds kinds;
        final Slide slide;
        long seed = 1;

        Changes(Kinds kinds, Slide slide) {
            this.kinds = kinds;
            this.slide = slide;
        }

        private int draw(int m) {
            seed = (FACTOR * seed + SUMMAND) & SEED_MASK;
            return m > 0 ? (int) (seed / 64 % m) : 0;
        }

        void change(State s) {
            int register = draw(REGISTERS) - REGISTERS;
            int how = draw(4);
            switch (how) {
                case 0: pointToNew(s, register); break;
                case 1:
                case 2: exchange(s, register, how == 1); break;
                default: pointElsewhere(s, register); break;
            }
        }

        private void pointToNew(State s, int register) {
            int begins = slide.freshCell(s, draw(kinds.count));
            if (begins != NONE) {
                s.put(register, POINTERS + begins);
            }
        }

        private void exchange(State s, int register, boolean intoField) {
            int target = pointsTo(s.at(draw(REGISTERS) - REGISTERS));
            int begins = target == NONE ? NONE : s.headOf(target);
            if (begins == NONE) {
                return;
            }
            int head = s.at(begins);
            int field = draw(kinds.wordsOf(head) - 1);
            int address = begins + 1 + field;
            if (!intoField) {
                s.put(register, s.at(address));
            } else if (kinds.sortOfField(head - HEADS, field) == NUM_FIELD) {
                s.put(address, NUMBERS + draw(1000));
            } else if (sortOf(s.at(register)) != NUMBER_SORT) {
                s.put(address, s.at(register));
            }
        }

        private void pointElsewhere(State s, int register) {
            int target = pointsTo(s.at(register));
            if (target == NONE) {
                s.put(register, NIL);
                return;
            }
            int begins = s.headOf(target);
            s.put(register, POINTERS + begins + draw(kinds.wordsOf(s.at(begins))));
        }
    }

    /** AN IMAGE. */
    private static final class Picture {
        private static final int MAX_BYTES = 3 + 3 * (REGISTERS + MAX_WORDS);

        final Kinds kinds;
        final int[] bytes = new int[MAX_BYTES];
        int length = 0;

        Picture(Kinds kinds) {
            this.kinds = kinds;
        }

        void write(State s) {
            bytes[0] = s.method;
            bytes[1] = s.limit;
            length = 2;
            for (int a = -REGISTERS; a < s.words; a++) {
                if (a < 0 || a >= s.limit) {
                    writeHeld(s.at(a));
                }
            }
            bytes[length] = sumOf(bytes, length);
            length++;
        }

        private void writeHeld(int held) {
            int raw = held & SORT_MASK;
            bytes[length] = sortOf(held);
            bytes[length + 1] = raw >> 8;
            bytes[length + 2] = raw & 255;
            length += 3;
        }

        private static int sumOf(int[] from, int count) {
            int c = 173;
            for (int i = 0; i < count; i++) {
                c = (3 * c + from[i]) % 251;
            }
            return c;
        }

        /** Reads the tape as AN IMAGE of a HEAP of so many WORDS; what s holds is free if it is none. */
        boolean readInto(State s, Tape tape, int words) {
            int[] in = tape.bytes;
            int last = tape.length - 1;
            if (last < 2 || in[0] > 1 || in[1] > words
                    || last != 2 + 3 * (REGISTERS + words - in[1]) || in[last] != sumOf(in, last)) {
                return false;
            }
            s.clear(words);
            s.method = in[0];
            s.limit = in[1];
            for (int r = 0; r < REGISTERS; r++) {
                int held = heldAt(in, 2 + 3 * r);
                if (!isNumber(held) && !isPointer(held, s)) {
                    return false;
                }
                s.held[r] = held;
            }
            int at = 2 + 3 * REGISTERS;
            for (int a = s.limit; a < words; a++) {
                s.put(a, heldAt(in, at));
                at += 3;
            }
            return isOfCells(s);
        }

        /** NONE of what no WORD holds. */
        private static int heldAt(int[] in, int at) {
            int raw = in[at + 1] * 256 + in[at + 2];
            return in[at] > HEAD_SORT || raw > SORT_MASK ? NONE : (in[at] << SORT_SHIFT) + raw;
        }

        private static boolean isNumber(int held) {
            return held >= NUMBERS - MOST && held <= NUMBERS + MOST;
        }

        private static boolean isPointer(int held, State s) {
            return held == NIL || held >= POINTERS + s.limit && held < POINTERS + s.words;
        }

        private boolean isOfCells(State s) {
            for (int a = s.limit; a < s.words; a += kinds.wordsOf(s.at(a))) {
                int kind = s.at(a) - HEADS;
                if (kind < 0 || kind >= kinds.count || a + kinds.fields[kind] >= s.words) {
                    return false;
                }
                for (int f = 0; f < kinds.fields[kind]; f++) {
                    int held = s.at(a + 1 + f);
                    boolean num = kinds.sortOfField(kind, f) == NUM_FIELD;
                    if (num ? !isNumber(held) : !isPointer(held, s)) {
                        return false;
                    }
                }
            }
            return true;
        }
    }
}
