import java.math.BigInteger;

/** Promises 36 and 38: chance, seed. */
final class ChanceTest {
    public static void main(String[] args) {
        refusals();
        byHand();
        asModel();
        Check.end();
    }

    private static void refusals() {
        CellSlide x = new CellSlide();
        Check.due("chance(1) without a heap", x.chance(1), Check.NONE);
        Check.due("seed(-1)", x.seed(-1), false);
        Check.due("seed(least)", x.seed(Integer.MIN_VALUE), false);
        Check.due("seed(0)", x.seed(0), true);
        Check.due("seed(most)", x.seed(Integer.MAX_VALUE), true);
        Check.due("status(6)", x.status(6), 2);
        Check.text(x, "heap 16;");
        Check.due("heap()", x.heap(), 1);
        Check.due("chance(1) without kinds", x.chance(1), Check.NONE);
        Check.text(x, "heap 16;kind p num;");
        Check.due("heap()", x.heap(), 2);
        for (int n : new int[] {0, -1, 51, Integer.MAX_VALUE}) {
            Check.due("chance(" + n + ")", x.chance(n), Check.NONE);
        }
        Check.due("has(8)", x.has(8), 0);
        Check.due("chance(50)", x.chance(50) >= 0, true);
        Check.due("has(8)", x.has(8), 1);
        x.begin();
        Check.due("chance(1) while one goes on", x.chance(1), Check.NONE);
        Check.due("status(4)", x.status(4), 7);
    }

    /** The seeds were worked out by hand (in ChanceTest.draws) so that each sort of CHANGE comes first. */
    private static void byHand() {
        for (int seed = 0; seed < 40; seed++) {
            int[] d = draws(seed, 6);
            CellSlide x = Check.heap("heap 16;kind p num;kind q ref;cell a p 3;cell b q a;"
                + "root 0 a;root 1 b;root 2 a+1;root 3 b+1;root 4 7;root 5 nil;root 6 a;root 7 b;");
            Check.due("seed", x.seed(seed), true);
            int r = d[0] % 8 - 8;
            int sort = x.word(r, 0);
            int number = x.word(r, 1);
            int s = d[2] % 8 - 8;
            int cell = x.word(s, 0) == 1 && x.word(s, 1) >= 0 ? x.cellOf(x.word(s, 1)) : Check.NONE;
            Check.due("chance(1)", x.chance(1), 0);
            switch (d[1] % 4) {
                case 0:
                    Check.holds(x, r, 1, 10);
                    Check.holds(x, 10, 2, d[2] % 2);
                    break;
                case 1:
                    if (cell == 14) {
                        Check.holds(x, 15, 0, d[4] % 1000);
                    } else if (cell == 12 && sort == 1) {
                        Check.holds(x, 13, 1, number);
                    } else {
                        Check.holds(x, 13, 1, 14);
                        Check.holds(x, 15, 0, 3);
                    }
                    Check.holds(x, r, sort, number);
                    break;
                case 2:
                    if (cell == 14) {
                        Check.holds(x, r, 0, 3);
                    } else if (cell == 12) {
                        Check.holds(x, r, 1, 14);
                    } else {
                        Check.holds(x, r, sort, number);
                    }
                    break;
                default:
                    boolean points = sort == 1 && number >= 0;
                    Check.holds(x, r, 1, points ? number / 2 * 2 + d[2] % 2 : -1);
                    break;
            }
            Check.due("undo()", x.undo(), true);
            Check.holds(x, r, sort, number);
        }
    }

    private static int[] draws(long seed, int n) {
        int[] all = new int[n];
        BigInteger x = BigInteger.valueOf(seed);
        for (int i = 0; i < n; i++) {
            x = x.multiply(BigInteger.valueOf(1103515245)).add(BigInteger.valueOf(12345))
                .mod(BigInteger.valueOf(1L << 31));
            all[i] = x.intValue() / 64;
        }
        return all;
    }

    /** The seed is 1 at first, goes on from deed to deed, and stays when one is undone. */
    private static void asModel() {
        CellSlide x = Check.heap("heap 16;kind p num,ref;kind q weak,ref,ref,num,ref,num;");
        Model m = new Model(16, "nr", "wrrnrn");
        Model.Seed seed = new Model.Seed();
        for (int n = 1; n <= 50; n++) {
            Model before = new Model(m);
            for (int i = 0; i < n; i++) {
                m.change(seed);
            }
            Check.due("chance(" + n + ")", x.chance(n), m.ended - before.ended);
            if (n % 3 == 0) {
                Check.due("undo()", x.undo(), true);
                m = before;
            }
            for (int a = -8; a < 16; a++) {
                Check.holds(x, a, m.sort(a), m.number(a));
            }
            Check.due("has(5)", x.has(5), m.ended);
        }
        Check.due("there were collections", m.ended > 0, true);
    }
}
