/** Promise 8: the bits of a above those of b. */
public final class Promise08ConcatTest {
    public static void main(String[] args) {
        Check.sentence("8: A new vector with the bits of a above those of b.", Promise08ConcatTest::everyWidth);
        Check.sentence("8: a and b may be one vector", Promise08ConcatTest::sameVectorTwice);
        Check.sentence("8: Illegal argument", Promise08ConcatTest::noSuchVector);
        Check.sentence("8: Illegal argument: also if it were wider than 64", Promise08ConcatTest::tooWide);
        Check.sentence("8: illegal state.", Promise08ConcatTest::fullBench);
        Check.end();
    }

    private static void everyWidth() {
        for (int upper = 1; upper < 64; upper++) {
            for (int lower = 1; upper + lower <= 64; lower++) {
                values(upper, lower);
            }
        }
    }

    private static void values(int upper, int lower) {
        VectorBench x = new VectorBench();
        x.input(upper);
        x.input(lower);
        Check.due("concat(0, 1)", () -> x.concat(0, 1), 2);
        Check.same("weight of concat", x.weight(), 2 * (upper + lower));
        Check.same("width of concat", x.width(2), upper + lower);
        for (long a : new long[] {0, 1, -1, 0x123456789ABCDEFL}) {
            for (long b : new long[] {0, 1, -1, 0x3C3C3C3C3C3C3C3CL}) {
                x.set(0, a);
                x.set(1, b);
                long high = a & -1L >>> (64 - upper);
                long low = b & -1L >>> (64 - lower);
                Check.same("concat of " + a + " and " + b, x.value(2), high << lower | low);
            }
        }
    }

    private static void sameVectorTwice() {
        VectorBench x = new VectorBench();
        x.constant(4, 9);
        x.input(32);
        x.concat(0, 0);
        x.concat(1, 1);
        x.set(1, 0x89ABCDEFL);
        Check.same("concat of 9 with itself", x.value(2), 0x99L);
        Check.same("concat of 32 bits with themselves", x.value(3), 0x89ABCDEF89ABCDEFL);
    }

    private static VectorBench small() {
        VectorBench x = new VectorBench();
        x.input(32);
        x.input(33);
        x.input(64);
        x.input(1);
        x.input(63);
        return x;
    }

    private static void noSuchVector() {
        VectorBench x = small();
        for (int bad : Check.noVectors(x)) {
            Check.refused(x, "concat(0, " + bad + ")", () -> x.concat(0, bad), Check.ARGUMENT);
            Check.refused(x, "concat(" + bad + ", 0)", () -> x.concat(bad, 0), Check.ARGUMENT);
            Check.refused(x, "concat twice of " + bad, () -> x.concat(bad, bad), Check.ARGUMENT);
        }
    }

    private static void tooWide() {
        VectorBench x = small();
        Check.refused(x, "concat of 32 and 33", () -> x.concat(0, 1), Check.ARGUMENT);
        Check.refused(x, "concat of 33 and 32", () -> x.concat(1, 0), Check.ARGUMENT);
        Check.refused(x, "concat of 64 and 1", () -> x.concat(2, 3), Check.ARGUMENT);
        Check.refused(x, "concat of 1 and 64", () -> x.concat(3, 2), Check.ARGUMENT);
        Check.refused(x, "concat of 64 and 64", () -> x.concat(2, 2), Check.ARGUMENT);
        Check.due("concat of 32 and 32", () -> x.concat(0, 0), 5);
        Check.due("concat of 63 and 1", () -> x.concat(4, 3), 6);
        Check.due("concat of 1 and 63", () -> x.concat(3, 4), 7);
        for (int v = 5; v < 8; v++) {
            int wide = v;
            Check.due("its width", () -> x.width(wide), 64);
        }
    }

    private static void fullBench() {
        VectorBench tight = Check.withRoom(15);
        Check.refused(tight, "concat with too little room", () -> tight.concat(0, 0), Check.STATE);
        Check.refused(tight, "too wide a concat with too little room", () -> tight.concat(0, 1), Check.ARGUMENT);
        VectorBench enough = Check.withRoom(16);
        Check.due("concat with just enough room", () -> enough.concat(0, 0), enough.vectors());
        Check.due("weight()", enough::weight, 100000);
    }
}
