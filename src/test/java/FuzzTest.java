import java.nio.charset.StandardCharsets;
import java.util.Random;

/** Any call with any arguments in any state: nothing is ever thrown, and pointers stay in the heap. */
final class FuzzTest {
    private static final int[] NUMBERS = {0, 1, 2, 3, 4, 5, 7, 8, 9, 10, 15, 16, 20, 50, 51, 100, 159, 160,
        399, 400, 401, 1000, 1600, 1601, -1, -2, -7, -8, -9, -100, Integer.MAX_VALUE, Integer.MIN_VALUE,
        Integer.MAX_VALUE - 7, Integer.MIN_VALUE + 7};
    private static final String[] TEXTS = {
        "heap 16;kind p num;", "heap 160;kind p ref,weak;kind q num,ref,ref;cell a p nil,a+2;root 0 a;",
        "heap 40;kind p num,ref;kind q weak,ref;cell a p 1,nil;cell b q a+1,a;set a.1 b;root 1 b;method 1;",
        "heap 24;kind p num,ref,weak,num,ref,weak;cell a p 0,a,a,1,a+5,nil;root 7 a+3;root 2 999;"};
    private static final String[] RUNS = {
        "a = new p;", "repeat 99 [ b = new p; b.1 = a; a = b; ]", "b.1.1.0 = b.0; slide;",
        "when a = nil [ a = new q; ] a.1 = a + 1; c = a.1 - 1; d = d + 999;",
        "repeat 9 [ repeat 9 [ h = new q; h.2 = g; g = h; ] slide; g = g.2.2; ]"};

    private final Random random;
    private final CellSlide x = new CellSlide();

    private FuzzTest(long number) {
        random = new Random(number);
    }

    public static void main(String[] args) {
        int runs = args.length > 0 ? Integer.parseInt(args[0]) : 1000;
        for (int number = 1; number <= runs; number++) {
            FuzzTest test = new FuzzTest(number);
            try {
                test.calls();
            } catch (RuntimeException | StackOverflowError thrown) {
                thrown.printStackTrace(System.out);
                Check.due("fuzz run " + number + " threw", true, false);
            }
        }
        Check.end();
    }

    private void calls() {
        if (random.nextInt(20) > 0) {
            put(TEXTS[random.nextInt(TEXTS.length)]);
            x.heap();
        }
        for (int n = 0; n < 450; n++) {
            call(random.nextInt(48));
        }
        for (int a = x.has(0) > 0 ? -8 : 0; a < x.has(0); a++) {
            int sort = x.word(a, 0);
            int number = x.word(a, 1);
            boolean fine = sort == 0 ? number >= -999 && number <= 999
                : sort == 1 ? number >= -1 && number < x.has(0)
                : sort == 2 ? number >= 0 && number < x.has(3) : number >= -8 && number < x.has(0);
            Check.due("word " + a + " is as words are", fine, true);
        }
    }

    private int any() {
        int how = random.nextInt(4);
        return how == 0 ? random.nextInt() : how == 1 ? random.nextInt(170) - 10
            : NUMBERS[random.nextInt(NUMBERS.length)];
    }

    private int few() {
        return random.nextInt(3) == 0 ? any() : random.nextInt(5);
    }

    private void put(String text) {
        byte[] raw = text.getBytes(StandardCharsets.ISO_8859_1);
        int[] bytes = new int[raw.length];
        for (int i = 0; i < raw.length; i++) {
            bytes[i] = raw[i] & 255;
        }
        x.end(0);
        for (int n = random.nextInt(3); n > 0 && random.nextInt(3) == 0; n--) {
            bytes[random.nextInt(bytes.length)] = " \n;,.+-=[]abp019?\u00ff".charAt(random.nextInt(18));
        }
        Check.bytes(x, bytes);
    }

    private void call(int which) {
        switch (which) {
            case 0: x.feed(any(), any(), any(), any(), any()); break;
            case 1: x.end(any()); break;
            case 2: if (random.nextInt(9) == 0) { put(TEXTS[random.nextInt(TEXTS.length)]); x.heap(); } break;
            case 3: x.fault(few()); break;
            case 4: x.has(any()); break;
            case 5: x.word(any(), few()); break;
            case 6: x.stage(few()); break;
            case 7: x.kept(any(), few()); break;
            case 8: x.cell(any(), few()); break;
            case 9: x.cellOf(any()); break;
            case 10: x.goes(any()); break;
            case 11: x.comes(any()); break;
            case 12: x.block(few(), few()); break;
            case 13: x.chain(any(), few()); break;
            case 14: x.longest(few()); break;
            case 15: x.steps(few()); break;
            case 16: x.room(few(), few()); break;
            case 17: x.far(any()); break;
            case 18: x.way(any(), few()); break;
            case 19: x.keeps(any()); break;
            case 20: x.retains(any()); break;
            case 21: x.best(few()); break;
            case 22: x.found(any()); break;
            case 23: x.remember(); break;
            case 24: x.alike(); break;
            case 25: see(); break;
            case 26: x.then(any()); break;
            case 27: x.tells(few()); break;
            case 28: case 29: case 30: put(RUNS[random.nextInt(RUNS.length)]); x.run(); break;
            case 31: x.failed(few()); break;
            case 32: x.collect(); break;
            case 33: x.begin(); break;
            case 34: case 35: case 36: x.step(any()); break;
            case 37: x.method(few()); break;
            case 38: case 39: x.chance(any()); break;
            case 40: case 41: x.undo(); break;
            case 42: x.seed(any()); break;
            case 43: x.image(); break;
            case 44: x.octet(any()); break;
            case 45: on(); break;
            case 46: x.on(); break;
            default: x.status(any()); break;
        }
    }

    private void see() {
        int[] bytes = new int[4 * random.nextInt(18)];
        for (int i = 0; i < bytes.length; i += 4) {
            bytes[i] = random.nextInt(4) == 0 ? 248 + random.nextInt(8) : random.nextInt(20);
            bytes[i + 1] = random.nextInt(4);
            bytes[i + 2] = 3;
            bytes[i + 3] = 224 + random.nextInt(32);
        }
        x.end(0);
        Check.bytes(x, bytes);
        x.see();
    }

    private void on() {
        int[] bytes = new int[Math.max(0, x.image())];
        int c = 173;
        for (int k = 0; k < bytes.length; k++) {
            bytes[k] = x.octet(k);
        }
        for (int n = random.nextInt(3); n > 0 && bytes.length > 0; n--) {
            bytes[random.nextInt(bytes.length)] = random.nextInt(256);
        }
        for (int k = 0; k + 1 < bytes.length; k++) {
            c = (3 * c + bytes[k]) % 251;
        }
        if (bytes.length > 0) {
            bytes[bytes.length - 1] = c;
        }
        x.end(0);
        Check.bytes(x, bytes);
        x.on();
    }
}
