/** Promises 1 to 3, and what all calls tell without a heap. */
final class NewTest {
    public static void main(String[] args) {
        CellSlide x = new CellSlide();
        for (int what = 0; what < 10; what++) {
            Check.due("has(" + what + ")", x.has(what), 0);
        }
        Check.due("feed", x.feed(1, 2, 3, 4, 5), 20);
        Check.due("end(20)", x.end(20), true);
        Check.due("end(21)", x.end(21), false);
        Check.due("end(-1)", x.end(-1), false);
        Check.due("end(1)", x.end(1), true);
        Check.due("end(2)", x.end(2), false);
        for (int n = 21; n <= 1581; n += 20) {
            Check.due("feed", x.feed(0, 0, 0, 0, 0), n);
        }
        Check.due("feed beyond", x.feed(0, 0, 0, 0, 0), Check.NONE);
        Check.due("end(1580)", x.end(1580), true);
        Check.due("feed to the brim", x.feed(0, 0, 0, 0, 0), 1600);
        Check.due("feed beyond", x.feed(0, 0, 0, 0, 0), Check.NONE);
        Check.due("status(0)", x.status(0), 5);
        Check.end();
    }
}
