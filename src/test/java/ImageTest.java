/** Promises 39 to 42: image, octet, on, status. */
final class ImageTest {
    private static final String HEAP = "heap 16;kind p num,ref;kind w weak;cell a p 999,a+2;cell b w a;"
        + "root 0 b+1;root 6 5;method 1;";

    public static void main(String[] args) {
        written();
        read();
        notRead();
        status();
        Check.end();
    }

    private static int sum(int[] bytes) {
        int c = 173;
        for (int i = 0; i < bytes.length - 1; i++) {
            c = (3 * c + bytes[i]) % 251;
        }
        return c;
    }

    private static int[] imageOf(CellSlide x) {
        int[] bytes = new int[x.image()];
        for (int k = 0; k < bytes.length; k++) {
            bytes[k] = x.octet(k);
        }
        return bytes;
    }

    private static void written() {
        CellSlide x = new CellSlide();
        Check.due("image() without a heap", x.image(), Check.NONE);
        Check.due("octet(0) of none", x.octet(0), Check.NONE);
        x = Check.heap(HEAP);
        Check.due("octet(0) of none", x.octet(0), Check.NONE);
        int[] want = {1, 11, 1, 3, 244, 1, 3, 231, 1, 3, 231, 1, 3, 231, 1, 3, 231, 1, 3, 231, 0, 3, 237,
            1, 3, 231, 2, 3, 233, 1, 3, 245, 2, 3, 232, 0, 7, 207, 1, 3, 247, 0};
        want[want.length - 1] = sum(want);
        Check.due("image()", x.image(), want.length);
        for (int k = 0; k < want.length; k++) {
            Check.due("octet(" + k + ")", x.octet(k), want[k]);
        }
        Check.due("octet behind", x.octet(want.length), Check.NONE);
        Check.due("octet(-1)", x.octet(-1), Check.NONE);
        Check.due("collect()", x.collect(), 14);
        Check.due("begin()", x.begin() > 0, true);
        Check.due("image() while one goes on", x.image(), Check.NONE);
        Check.due("octet(1), of the latest", x.octet(1), 11);
        Check.due("octet behind", x.octet(want.length), Check.NONE);
    }

    private static void read() {
        CellSlide x = Check.heap(HEAP);
        int[] image = imageOf(x);
        Check.runs(x, "c = new p; c.1 = c; a.1 = a; b = nil;", 2, 2, 20);
        Check.due("remember()", x.remember(), 2);
        Check.bytes(x, 15, 1, 3, 247);
        Check.due("see()", x.see(), 1);
        Check.due("method(0)", x.method(0), true);
        Check.due("collect()", x.collect(), 11);
        Check.due("begin()", x.begin() > 0, true);
        Check.due("step(13)", x.step(13) > 0, true);
        Check.bytes(x, image);
        Check.due("on()", x.on(), true);
        int[] has = {16, 11, 2, 2, 1, 0, 0, 1, 0, 1};
        for (int what = 0; what < has.length; what++) {
            Check.due("has(" + what + ")", x.has(what), has[what]);
        }
        Check.due("stage(0)", x.stage(0), Check.NOTHING);
        Check.due("kept(0, 0)", x.kept(0, 0), Check.NONE);
        Check.due("undo()", x.undo(), false);
        Check.due("failed(0)", x.failed(0), 2);
        Check.due("failed(1)", x.failed(1), 20);
        Check.due("alike()", x.alike(), 0);
        int[] again = imageOf(x);
        for (int k = 0; k < image.length; k++) {
            Check.due("octet(" + k + ") again", again[k], image[k]);
        }
        for (int a = 0; a < 11; a++) {
            Check.holds(x, a, 0, 0);
        }
        Check.due("the tape went", x.feed(0, 0, 0, 0, 0), 20);
    }

    /** Puts a number at a place of the image, mends the sum, and looks whether it is one still. */
    private static void changed(CellSlide x, int[] image, boolean want, int... changes) {
        int[] bytes = image.clone();
        for (int i = 0; i < changes.length; i += 2) {
            bytes[changes[i]] = changes[i + 1];
        }
        bytes[bytes.length - 1] = sum(bytes);
        int limit = x.has(1);
        Check.bytes(x, bytes);
        Check.due("on()", x.on(), want);
        if (want) {
            Check.bytes(x, image);
            Check.due("on()", x.on(), true);
        } else {
            Check.due("has(1), all staying", x.has(1), limit);
            Check.due("has(8), all staying", x.has(8) > 0, true);
        }
    }

    private static void notRead() {
        CellSlide none = new CellSlide();
        CellSlide x = Check.heap(HEAP);
        int[] image = imageOf(x);
        Check.bytes(none, image);
        Check.due("on() without a heap", none.on(), false);
        Check.due("the tape went", none.feed(0, 0, 0, 0, 0), 20);
        Check.due("status(6)", none.status(6), 1);
        Check.due("method(0)", x.method(0), true);
        changed(x, image, false, 0, 2);
        changed(x, image, false, 1, 10);
        changed(x, image, false, 1, 12);
        changed(x, image, false, 1, 17);
        changed(x, image, false, 2, 2);
        changed(x, image, false, 2, 3);
        changed(x, image, false, 4, 242);
        changed(x, image, false, 4, 230);
        changed(x, image, false, 4, 248);
        changed(x, image, false, 20, 0, 21, 7, 22, 208);
        changed(x, image, false, 20, 0, 21, 0, 22, 0);
        changed(x, image, false, 28, 234);
        changed(x, image, false, 28, 232);
        changed(x, image, false, 26, 0);
        changed(x, image, false, 29, 0);
        changed(x, image, false, 29, 2);
        changed(x, image, false, 31, 242);
        changed(x, image, false, 34, 233);
        changed(x, image, false, 35, 1, 36, 3, 37, 231);
        changed(x, image, false, 36, 255, 37, 255);
        changed(x, image, false, 38, 0);
        changed(x, image, false, 40, 248);
        int refused = x.status(6);
        Check.due("status(6)", refused, 22);
        int[] bytes = image.clone();
        bytes[bytes.length - 1] ^= 1;
        Check.bytes(x, bytes);
        Check.due("on() with a wrong sum", x.on(), false);
        for (int more : new int[] {-3, -1, 1, 3}) {
            bytes = java.util.Arrays.copyOf(image, image.length + more);
            bytes[bytes.length - 1] = sum(bytes);
            Check.bytes(x, bytes);
            Check.due("on() with " + more + " bytes more", x.on(), false);
        }
        Check.bytes(x);
        Check.due("on() of nothing", x.on(), false);
        Check.bytes(x, 0, 16);
        Check.due("on() of two bytes", x.on(), false);
        Check.due("status(6)", x.status(6), 29);
        changed(x, image, true, 0, 0);
        changed(x, image, true, 2, 0, 3, 0, 4, 1);
        changed(x, image, true, 2, 0, 3, 7, 4, 207);
        changed(x, image, true, 4, 243);
        changed(x, image, true, 4, 247);
        changed(x, image, true, 4, 231);
        changed(x, image, true, 31, 231);
        changed(x, image, true, 31, 243);
        changed(x, image, true, 36, 0, 37, 1);
        CellSlide empty = Check.heap("heap 16;kind p num;cell a p 1;");
        int[] bare = new int[27];
        bare[1] = 16;
        for (int r = 0; r < 8; r++) {
            bare[2 + 3 * r] = 1;
            bare[3 + 3 * r] = 3;
            bare[4 + 3 * r] = 231;
        }
        bare[26] = sum(bare);
        Check.bytes(empty, bare);
        Check.due("on() of no cells", empty.on(), true);
        Check.due("has(1)", empty.has(1), 16);
        Check.due("image()", empty.image(), 27);
        int[] beyond = java.util.Arrays.copyOf(bare, 30);
        beyond[1] = 15;
        beyond[26] = 2;
        beyond[27] = 3;
        beyond[28] = 232;
        beyond[29] = sum(beyond);
        Check.bytes(empty, beyond);
        Check.due("on() of a cell that goes beyond the end", empty.on(), false);
        beyond[28] = 233;
        beyond[29] = sum(beyond);
        Check.bytes(empty, beyond);
        Check.due("on() of a kind that there is not", empty.on(), false);
        int[] above = java.util.Arrays.copyOf(bare, 24);
        above[1] = 17;
        above[23] = sum(above);
        Check.bytes(empty, above);
        Check.due("on() of a limit above the end", empty.on(), false);
        // NUMBER 2047 must not be taken for nil, as which it would be held.
        int[] number = bare.clone();
        number[2] = 0;
        number[3] = 3047 >> 8;
        number[4] = 3047 & 255;
        number[26] = sum(number);
        Check.bytes(empty, number);
        Check.due("on() of a number that can't be", empty.on(), false);
        int[] noWords = bare.clone();
        noWords[1] = 0;
        noWords[26] = sum(noWords);
        CellSlide noHeap = new CellSlide();
        Check.bytes(noHeap, noWords);
        Check.due("on() of no words, without a heap", noHeap.on(), false);
    }

    private static void status() {
        CellSlide x = new CellSlide();
        for (int what = 0; what < 7; what++) {
            Check.due("status(" + what + ")", x.status(what), 0);
        }
        Check.due("status(7)", x.status(7), Check.NONE);
        Check.due("status(-1)", x.status(-1), Check.NONE);
        x.end(1);
        x.heap();
        x.see();
        x.run();
        x.remember();
        x.collect();
        x.begin();
        x.step(1);
        x.method(0);
        x.chance(1);
        x.undo();
        x.seed(-1);
        x.on();
        x.image();
        x.alike();
        int[] want = {1, 2, 2, 4, 1, 1, 2};
        for (int what = 0; what < 7; what++) {
            Check.due("status(" + what + ")", x.status(what), want[what]);
        }
        Check.text(x, HEAP);
        Check.due("heap()", x.heap(), 8);
        for (int what = 0; what < 7; what++) {
            Check.due("status(" + what + "), which stays", x.status(what), want[what]);
        }
    }
}
