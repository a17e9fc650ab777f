import java.lang.management.ManagementFactory;
import java.lang.reflect.Array;
import java.lang.reflect.Field;
import java.lang.reflect.Modifier;
import java.util.ArrayDeque;
import java.util.Collections;
import java.util.Deque;
import java.util.IdentityHashMap;
import java.util.Set;

/** What an object takes of the one room that all calls of a run live in, and that its calls take nothing more. */
final class RoomTest {
    private static final int MANY_OBJECTS = 200;
    private static final int FIRST_ELEMENTS = 20000;
    private static final int ALL_ELEMENTS = 80000;
    private static final String HEAP = "heap 160;kind p num,ref;kind w weak,ref;cell a p 1,nil;cell b w a,a;root 0 b;";
    private static final String RUN = "repeat 20 [ c = new p; c.1 = d; d = c; when c.0 = 0 [ e = new w; slide; ] ]";

    private static int elements = 0;

    public static void main(String[] args) {
        CellSlide x = new CellSlide();
        int first = objects(x);
        Check.due("objects at first: " + first, first <= MANY_OBJECTS, true);
        Check.due("elements at first: " + elements, elements <= FIRST_ELEMENTS, true);
        int at = 0;
        for (int round = 0; round < 3; round++) {
            at |= session(x);
        }
        Check.due("there were answers", at != 0, true);
        // TELLING alone has two rows more, made once.
        Check.due("objects behind calls", objects(x), first + 2);
        Check.due("elements behind calls: " + elements, elements <= ALL_ELEMENTS, true);
        callsMakeNothing(x);
        Check.end();
    }

    /** How many objects and arrays an object holds on to; their fields and elements are counted, too. */
    private static int objects(Object from) {
        Set<Object> seen = Collections.newSetFromMap(new IdentityHashMap<>());
        Deque<Object> left = new ArrayDeque<>();
        left.add(from);
        elements = 0;
        while (!left.isEmpty()) {
            Object one = left.remove();
            if (!seen.add(one)) {
                continue;
            }
            if (one.getClass().isArray()) {
                elements += Array.getLength(one);
                for (int i = 0; one instanceof Object[] && i < Array.getLength(one); i++) {
                    addTo(left, Array.get(one, i));
                }
                continue;
            }
            for (Field field : one.getClass().getDeclaredFields()) {
                if (!Modifier.isStatic(field.getModifiers())) {
                    elements++;
                    addTo(left, valueOf(field, one));
                }
            }
        }
        return seen.size();
    }

    private static void addTo(Deque<Object> left, Object one) {
        if (one != null && (one.getClass().isArray() || one.getClass().getName().startsWith("CellSlide"))) {
            left.add(one);
        }
    }

    private static Object valueOf(Field field, Object of) {
        try {
            field.setAccessible(true);
            return field.get(of);
        } catch (IllegalAccessException closed) {
            Check.due(field + " can be looked at", false, true);
            return null;
        }
    }

    /** All calls; the answer keeps them from being left out. */
    private static int session(CellSlide x) {
        Check.text(x, HEAP);
        int sum = x.heap();
        Check.text(x, RUN);
        sum += x.run() + x.remember() + x.fault(0) + x.failed(0);
        Check.bytes(x, 255, 1, 3, 231);
        sum += x.see() + x.image();
        int[] image = new int[x.image()];
        for (int k = 0; k < image.length; k++) {
            image[k] = x.octet(k);
        }
        sum += asks(x);
        Check.bytes(x, image);
        return sum + (x.on() ? 1 : 0) + (x.seed(7) ? 1 : 0) + asks(x);
    }

    /** Calls that take no tape, so that a test of theirs makes nothing, either. */
    private static int asks(CellSlide x) {
        int sum = 0;
        for (int a = -9; a <= 160; a += 7) {
            sum += x.word(a, 1) + x.cellOf(a) + x.goes(a) + x.comes(a) + x.chain(a, 0) + x.far(a) + x.way(a, 0) + x.retains(a);
        }
        for (int k = -1; k < 9; k++) {
            sum += x.has(k) + x.cell(k, 3) + x.block(k, 2) + x.room(k, 1) + x.keeps(k) + x.found(k) + x.then(k) + x.octet(k)
                + x.status(k) + x.longest(k) + x.steps(k) + x.best(k) + x.tells(k) + x.alike() + x.kept(k, 0) + x.stage(k);
        }
        sum += x.chance(50) + x.collect() + x.remember() + x.image() + (x.method(1) ? 1 : 0) + x.begin();
        for (int n = 0; n < 30; n++) {
            sum += x.step(n) + x.stage(1);
        }
        sum += x.step(400) + (x.undo() ? 1 : 0) + (x.undo() ? 1 : 0) + x.step(400) + (x.method(0) ? 1 : 0) + x.collect();
        // An empty tape: refused, but for run(), which does nothing.
        return sum + x.run() + x.see() + x.heap() + (x.on() ? 1 : 0);
    }

    private static void callsMakeNothing(CellSlide x) {
        if (!(ManagementFactory.getThreadMXBean() instanceof com.sun.management.ThreadMXBean counts)
                || !counts.isThreadAllocatedMemorySupported()) {
            return;
        }
        long me = Thread.currentThread().getId();
        long made = Long.MAX_VALUE;
        // The least of several, as the machine may make something of its own in between.
        for (int round = 0; round < 20; round++) {
            long before = counts.getThreadAllocatedBytes(me);
            asks(x);
            made = Math.min(made, counts.getThreadAllocatedBytes(me) - before);
        }
        Check.due("bytes that some 600 calls make: " + made, made < 1000, true);
    }
}
