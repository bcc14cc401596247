/** Promise 9: the bits high .. low. */
public final class Promise09ExtractTest {
    public static void main(String[] args) {
        Check.sentence("9: A new vector with the bits high .. low of a", Promise09ExtractTest::everyPair);
        Check.sentence("9: 0 being the lowest", Promise09ExtractTest::singleBits);
        Check.sentence("9: Illegal argument", Promise09ExtractTest::noSuchVector);
        Check.sentence("9: Illegal argument: also if there are no such bits", Promise09ExtractTest::noSuchBits);
        Check.sentence("9: .. or high is less than low", Promise09ExtractTest::highBelowLow);
        Check.sentence("9: illegal state.", Promise09ExtractTest::fullBench);
        Check.end();
    }

    private static void everyPair() {
        for (int w : new int[] {1, 2, 7, 31, 32, 33, 63, 64}) {
            for (int high = 0; high < w; high++) {
                for (int low = 0; low <= high; low++) {
                    values(w, high, low);
                }
            }
        }
    }

    private static void values(int w, int high, int low) {
        VectorBench x = new VectorBench();
        x.input(w);
        String call = "extract(0, " + high + ", " + low + ")";
        Check.due(call, () -> x.extract(0, high, low), 1);
        Check.same("weight of " + call, x.weight(), w + high - low + 1);
        Check.same("width of " + call, x.width(1), high - low + 1);
        for (long a : new long[] {-1, 0x0123456789ABCDEFL, 0xAAAAAAAAAAAAAAAAL}) {
            x.set(0, a);
            long want = Reference.told(high - low + 1, Reference.number(w, a).shiftRight(low));
            Check.same(call + " of " + a, x.value(1), want);
        }
    }

    /** High and low may be the same: one bit. */
    private static void singleBits() {
        for (int w = 1; w <= 64; w++) {
            VectorBench x = new VectorBench();
            x.input(w);
            for (int i = 0; i < w; i++) {
                int place = i;
                Check.due("extract(0, " + i + ", " + i + ")", () -> x.extract(0, place, place), i + 1);
            }
            for (int i = 0; i < w; i++) {
                x.set(0, 1L << i);
                for (int j = 0; j < w; j++) {
                    Check.same("bit " + j + " of 2^" + i, x.value(j + 1), i == j ? 1L : 0L);
                }
            }
        }
    }

    private static void noSuchVector() {
        VectorBench x = new VectorBench();
        x.input(8);
        for (int bad : Check.noVectors(x)) {
            Check.refused(x, "extract(" + bad + ", 0, 0)", () -> x.extract(bad, 0, 0), Check.ARGUMENT);
        }
    }

    private static void refused(int w, int high, int low) {
        VectorBench x = new VectorBench();
        x.input(w);
        x.set(0, 1);
        Check.refused(x, "width " + w + ": extract(0, " + high + ", " + low + ")",
            () -> x.extract(0, high, low), Check.ARGUMENT);
    }

    private static void noSuchBits() {
        for (int w = 1; w <= 64; w++) {
            refused(w, w, 0);
            refused(w, w, w);
            refused(w, w, w - 1);
            refused(w, w - 1, -1);
            refused(w, 0, -1);
            refused(w, -1, -1);
            refused(w, w, -1);
            refused(w, 64, 0);
            refused(w, Integer.MAX_VALUE, 0);
            refused(w, w - 1, Integer.MIN_VALUE);
            refused(w, Integer.MAX_VALUE, Integer.MIN_VALUE);
            refused(w, Integer.MAX_VALUE, Integer.MAX_VALUE);
            refused(w, Integer.MIN_VALUE, Integer.MIN_VALUE);
            refused(w, Integer.MAX_VALUE, 1);
        }
    }

    private static void highBelowLow() {
        for (int w = 2; w <= 64; w++) {
            refused(w, 0, 1);
            refused(w, 0, w - 1);
            refused(w, w - 2, w - 1);
            refused(w, -1, 0);
            refused(w, w - 1, w);
            refused(w, Integer.MIN_VALUE, 0);
            refused(w, Integer.MIN_VALUE, Integer.MAX_VALUE);
            refused(w, 0, Integer.MAX_VALUE);
        }
    }

    private static void fullBench() {
        VectorBench tight = Check.withRoom(3);
        Check.refused(tight, "extract of 4 with room for 3", () -> tight.extract(0, 5, 2), Check.STATE);
        Check.refused(tight, "extract of no bits with room for 3", () -> tight.extract(0, 8, 2), Check.ARGUMENT);
        Check.refused(tight, "extract of 2 .. 5 with room for 3", () -> tight.extract(0, 2, 5), Check.ARGUMENT);
        Check.due("extract of 3 with room for 3", () -> tight.extract(0, 4, 2), tight.vectors());
        Check.due("weight()", tight::weight, 100000);
        Check.refused(tight, "extract of 1 without room", () -> tight.extract(0, 0, 0), Check.STATE);
    }
}
