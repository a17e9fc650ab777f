import java.lang.reflect.Constructor;
import java.lang.reflect.Field;
import java.lang.reflect.Method;
import java.lang.reflect.Modifier;
import java.util.ArrayList;
import java.util.Arrays;
import java.util.List;

/** The document's first lines, its public face, the first words of its Terms, its groups of calls, what it leaves free. */
final class EdgesOfFace {
    // d 4 5 6 | 7 8 9, dead | b 10 11 12 (to a+1) | a 13 14 15; registers a to b, b to b+2, d to d
    private static final String STORY = "heap 16; kind p num, ref; cell a p 5, nil; cell b p 7, a+1; root 0 b;";

    private EdgesOfFace() { }

    static void all() {
        whatItIs();
        face();
        terms();
        groups();
        notPromised();
    }

    // ---- what it is

    private static void whatItIs() {
        // c 6 7 (up to a+1) | 8 9, dead | b 10 11 (down to c) | a 12 13 | 14 15, dead
        String heap = "heap 16;kind r ref;kind n num;cell z n 1;cell a n 3;cell b r nil;cell y n 2;cell c r a+1;"
            + "set b.0 c;root 0 b;root 1 a+1;";
        Edge.of("what", "Heap whose live cells slide to its high end in two passes without a table beside it: all "
            + "pointers to a word are chained through that word, forward for those that point up, backward for those "
            + "that point down;");
        CellSlide x = Check.heap(heap);
        Edge.words(x, -8, "P10 P13");
        Edge.words(x, 6, "H0 P13 H1 N2 H0 P6 H1 N3 H1 N1");
        Check.due("begin()", x.begin(), 22);
        Check.due("step(11): to the word that points up", x.step(11), 11);
        Check.due("stage(0), the first pass", x.stage(0), 3);
        Check.holds(x, 13, 3, 7);
        Check.holds(x, 7, 3, -7);
        Edge.words(x, -7, "N3");
        Check.due("step(4): all that point up are done", x.step(4), 7);
        Edge.words(x, -8, "P12 P15");
        Edge.words(x, 6, "H0 P15 H1 N2 H0 P6 H1 N3");
        Check.due("stage(0), the second pass", x.stage(0), 4);
        Check.due("step(3): to the word that points down", x.step(3), 4);
        Check.holds(x, 6, 3, 13);
        Check.holds(x, 13, 2, 0);
        Check.due("step(4)", x.step(4), 0);
        String after = "H0 P15 H0 P10 H1 N3";
        Edge.words(x, -8, "P12 P15");
        Edge.words(x, 10, after);
        Edge.of("what", "a table of breaks that lies in the holes does the same another way.");
        CellSlide y = Check.heap(heap + "method 1;");
        Check.due("begin()", y.begin(), 18);
        Check.due("step(3): the blocks lie there, the table in the hole", y.step(3), 15);
        Edge.words(y, 6, "N6 N4 N10 N2 H0 P13 H0 P6 H1 N3");
        Check.due("step(400)", y.step(400), 0);
        Edge.words(y, -8, "P12 P15");
        Edge.words(y, 10, after);
        Edge.words(y, 6, "N0 N0 N0 N0");
    }

    // ---- the public face

    private static void face() {
        List<String> methods = new ArrayList<>();
        int constants = 0;
        for (String part : Edge.section("face").split("[{;}]")) {
            String line = part.trim();
            if (line.isEmpty()) {
                continue;
            }
            Edge.of("face", line);
            if (line.contains(" class ")) {
                isClass(line);
            } else if (line.contains("=")) {
                isConstant(line);
                constants++;
            } else if (line.equals("public CellSlide()")) {
                isConstructor(line);
            } else {
                isMethod(line);
                methods.add(line.substring("public ".length()));
            }
        }
        Check.due("constants", constants, publicOf(CellSlide.class.getDeclaredFields()));
        Check.due("methods", methods.size(), publicOf(CellSlide.class.getDeclaredMethods()));
        Edge.of(1, "`CellSlide()`: No heap.");
        Check.due("has(0)", new CellSlide().has(0), 0);
        // Each promise is told of the method that stands in its place.
        for (int k = 0; k < methods.size(); k++) {
            Edge.of(k + 2, "`" + methods.get(k) + "`:");
            Check.due("it is ahead", Edge.section(Integer.toString(k + 2)).indexOf('`' + methods.get(k)), 0);
        }
        Check.due("promises", methods.size() + 1, 42);
    }

    private static int publicOf(java.lang.reflect.Member[] members) {
        int n = 0;
        for (java.lang.reflect.Member member : members) {
            n += Modifier.isPublic(member.getModifiers()) ? 1 : 0;
        }
        return n;
    }

    private static void isClass(String line) {
        Check.due("it is public and final", CellSlide.class.getModifiers(), Modifier.PUBLIC | Modifier.FINAL);
        Check.due("its name", line.equals("public final class " + CellSlide.class.getName()), true);
        Check.due("it is of no other", CellSlide.class.getSuperclass() == Object.class, true);
        Check.due("it implements nothing", CellSlide.class.getInterfaces().length, 0);
    }

    private static void isConstant(String line) {
        String[] parts = line.split("[ =]+");
        try {
            Field field = CellSlide.class.getField(parts[4]);
            Check.due(line, field.getInt(null), Integer.parseInt(parts[5]));
            Check.due(line, field.getModifiers(), Modifier.PUBLIC | Modifier.STATIC | Modifier.FINAL);
            Check.due(line, field.getType() == int.class, true);
        } catch (ReflectiveOperationException missing) {
            Check.due(line + " is there", false, true);
        }
    }

    private static void isConstructor(String line) {
        Constructor<?>[] all = CellSlide.class.getDeclaredConstructors();
        Check.due(line, all.length, 1);
        Check.due(line, all[0].getModifiers(), Modifier.PUBLIC);
        Check.due(line, all[0].getParameterCount(), 0);
    }

    private static void isMethod(String line) {
        String name = line.replaceAll("\\(.*", "").replaceAll(".* ", "");
        String taken = line.replaceAll(".*\\(|\\)", "");
        Class<?>[] types = new Class<?>[taken.isEmpty() ? 0 : taken.split(",").length];
        Arrays.fill(types, int.class);
        try {
            Method method = CellSlide.class.getDeclaredMethod(name, types);
            Check.due(line, method.getModifiers(), Modifier.PUBLIC);
            Check.due(line, line.split(" ")[1].equals(method.getReturnType().getName()), true);
        } catch (NoSuchMethodException missing) {
            Check.due(line + " is there", false, true);
        }
    }

    // ---- the first words of the Terms

    private static CellSlide story() {
        CellSlide x = Check.heap(STORY);
        Edge.runs(x, 9, "a.1.0 = a.0 + 1; b = a + 2; repeat 3 [ c = new p; ] c.1 = b;");
        Edge.runs(x, 1, "d = new p;");
        Edge.runs(x, 1, "c = nil;");
        return x;
    }

    private static void terms() {
        Edge.of("terms", "A heap is told as a text of kinds, cells, fields, registers;");
        CellSlide x = Check.heap(STORY);
        Edge.words(x, -8, "P10 nil nil nil nil nil nil nil N0");
        Edge.words(x, 9, "N0 H0 N7 P14 H0 N5 nil");
        Edge.of("terms", "runs, told as texts, too, follow paths, set fields, point into the middle of cells, make new cells, "
            + "go round, and collect when there is no room.");
        Edge.runs(x, 9, "a.1.0 = a.0 + 1; b = a + 2; repeat 3 [ c = new p; ] c.1 = b;");
        Edge.words(x, -8, "P10 P12 P1 nil");
        Edge.words(x, 0, "N0 H0 N0 P12 H0 N0 nil H0 N0 nil H0 N7 P14 H0 N8 nil");
        Check.due("has(5)", x.has(5), 0);
        Edge.runs(x, 1, "d = new p;");
        Check.due("has(5)", x.has(5), 1);
        Edge.words(x, -8, "P10 P12 P7 P4");
        Edge.words(x, 0, "N0 N0 N0 N0 H0 N0 nil H0 N0 P12 H0 N7 P14 H0 N8 nil");
        Edge.of("terms", "A collection goes step by step, each word can be looked at in between.");
        x = story();
        Check.due("begin()", x.begin(), 28);
        Check.due("step(1)", x.step(1), 27);
        Edge.words(x, -8, "P10 P12 nil P4");
        Check.due("step(2)", x.step(2), 25);
        Edge.words(x, -8, "H0 P14 nil P4 nil nil nil nil N0 N0 N0 N0 H0 N0 nil H0 N0 P12 L-8 N7 L-7 H0 N8 nil");
        Check.due("step(400)", x.step(400), 0);
        Edge.words(x, -8, "P10 P12 nil P7 nil nil nil nil N0 N0 N0 N0 N0 N0 N0 H0 N0 nil H0 N7 P14 H0 N8 nil");
        asked(story());
        Edge.of("terms", "registers and fields changed by a seed; deeds undone, images.");
        x = story();
        Check.due("seed(1)", x.seed(1), true);
        Check.due("chance(2)", x.chance(2), 0);
        Edge.words(x, -8, "P10 P12 P1 P4 nil nil nil nil N0 H0 N0 nil H0 N0 nil H0 N0 P12 H0 N7 P14 H0 N8 nil");
        Check.due("undo()", x.undo(), true);
        Edge.words(x, -8, "P10 P12 nil P4 nil nil nil nil N0 N0 N0 N0 H0 N0 nil H0 N0 P12 H0 N7 P14 H0 N8 nil");
        int[] image = Edge.imageOf(x);
        Check.due("image()", image.length, 63);
        Check.due("collect()", x.collect(), 7);
        Check.bytes(x, image);
        Check.due("on()", x.on(), true);
        Edge.words(x, -8, "P10 P12 nil P4 nil nil nil nil N0 N0 N0 N0 H0 N0 nil H0 N0 P12 H0 N7 P14 H0 N8 nil");
    }

    private static void asked(CellSlide x) {
        Edge.of("terms", "Asked are: what is live, where a word goes, from where one comes, how far a cell is, by which way, what "
            + "a register or a cell keeps alive, how long chains get, blocks and what they slide, steps by either method, how "
            + "many cells have room, in which order cells are found, whether the shape is what it was, by which step words are "
            + "as they were seen, the word that tells most;");
        Check.due("cell(0, 3)", x.cell(0, 3), 1);
        Check.due("cell(1, 3)", x.cell(1, 3), 0);
        Check.due("goes(4)", x.goes(4), 7);
        Edge.none("goes(7)", x.goes(7));
        Check.due("comes(7)", x.comes(7), 4);
        Check.due("far(13)", x.far(13), 1);
        Check.due("way(13, 0)", x.way(13, 0), 0);
        Check.due("way(13, 1)", x.way(13, 1), 1);
        Check.due("keeps(0)", x.keeps(0), 0);
        Check.due("keeps(3)", x.keeps(3), 3);
        Check.due("retains(10)", x.retains(10), 6);
        Check.due("chain(10, 0)", x.chain(10, 0), 1);
        Check.due("longest(0)", x.longest(0), 1);
        Check.due("longest(1)", x.longest(1), 0);
        Check.due("block(0, 0)", x.block(0, 0), 4);
        Check.due("block(0, 2)", x.block(0, 2), 3);
        Check.due("block(1, 1)", x.block(1, 1), 6);
        Check.due("block(1, 2)", x.block(1, 2), 0);
        Check.due("steps(0)", x.steps(0), 28);
        Check.due("steps(1)", x.steps(1), 21);
        Check.due("room(0, 0)", x.room(0, 0), 1);
        Check.due("room(0, 1)", x.room(0, 1), 2);
        int[] found = {10, 4, 13};
        Check.due("found(NONE)", x.found(Check.NONE), 3);
        for (int k = 0; k < 3; k++) {
            Check.due("found(" + k + ")", x.found(k), found[k]);
        }
        Check.due("remember()", x.remember(), 3);
        Check.due("collect()", x.collect(), 7);
        Check.due("alike()", x.alike(), 1);
        Check.due("undo()", x.undo(), true);
        Check.due("see(): 10 holds a link to register 0", Edge.see(x, 10, 3, -8), 1);
        Check.due("then(NONE): from that register on, until word 10 is come to", x.then(Check.NONE), 11);
        Check.due("then(0)", x.then(0), 2);
        Check.due("then(10)", x.then(10), 12);
        Check.due("tells(0)", x.tells(0), 4);
        Check.due("tells(1)", x.tells(1), 6);
    }

    // ---- groups of calls

    private static void groups() {
        CellSlide x = Check.heap(STORY);
        Edge.fails(x, 0, 1, "^c.0 = 1;");
        Check.due("remember()", x.remember(), 2);
        Check.due("image()", x.image(), 45);
        Check.due("begin()", x.begin(), 22);
        int at = 0;
        at = group(at, "`cell`, `cellOf`, `goes`, `comes`, `block`, `chain`, `longest`, `steps`, `room`",
            "cells (these, and all up to the deeds, tell NONE while a collection goes on).");
        Edge.none("cell(0, 0)", x.cell(0, 0));
        at = group(at, "`far`, `way`, `keeps`, `retains`, `best`, `found`, `remember`, `alike`", "what keeps what.");
        Edge.none("found(NONE)", x.found(Check.NONE));
        Edge.none("alike()", x.alike());
        at = group(at, "`see`, `then`, `tells`", "what was seen.");
        Edge.none("then(NONE)", x.then(Check.NONE));
        at = group(at, "`run`, `failed`, `collect`, `begin`, `step`, `method`, `chance`, `undo`, `seed`", "deeds.");
        Check.due("failed(0), which is among the deeds", x.failed(0), 1);
        at = group(at, "`image`, `octet`, `on`, `status`", "images, refusals.");
        Check.due("octet(0)", x.octet(0), 0);
        Check.due("status(3)", x.status(3), 0);
        Check.due("the last call of the face", at, Edge.section("face").indexOf(" status("));
    }

    /** The calls of a group stand in the face one after the other, behind those of the groups ahead. */
    private static int group(int from, String calls, String says) {
        Edge.of("constants", "Ahead of the calls " + calls + " the interface says: ---- " + says);
        int at = from;
        for (String call : calls.replaceAll("[`,]", "").split(" ")) {
            int next = Edge.section("face").indexOf(" " + call + "(", at);
            Check.due(call + " is behind what is ahead of it", next > at, true);
            at = next;
        }
        return at;
    }

    // ---- what is free

    private static void notPromised() {
        Edge.of("not", "How the state is held inside the object is free, as are the speed of each call, the text of toString "
            + "and the behaviour of equals and hashCode. Use of one object from several threads at once is not promised to "
            + "be safe.");
        // Not promised, but what each object tells is its own.
        CellSlide x = story();
        CellSlide y = Check.heap("heap 20;kind k num;root 0 3;method 1;");
        String before = Edge.all(x);
        Edge.runs(y, 2, "b = new k; slide;");
        Edge.same("another object's deeds are nothing to it", Edge.all(x), before);
        Edge.of("not", "Nothing is promised beyond the answers and state changes described above, and nothing about an object "
            + "after its 512th call.");
        for (int n = 0; n < 3000; n++) {
            Check.due("it does not throw even so", x.collect() >= Check.NONE && x.chance(50) >= Check.NONE, true);
        }
    }
}
