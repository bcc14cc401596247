/** Promise 9: the bits high .. low. */
public final class Promise09ExtractTest {
    public static void main(String[] args) {
        for (int w : new int[] {1, 2, 7, 31, 32, 33, 63, 64}) {
            values(w);
        }
        wrongArguments();
        fullBench();
        Check.end();
    }

    private static void values(int w) {
        for (int high = 0; high < w; high++) {
            for (int low = 0; low <= high; low++) {
                VectorBench x = new VectorBench();
                x.input(w);
                int h = high;
                int l = low;
                String call = "extract(0, " + high + ", " + low + ")";
                Check.due(call, () -> x.extract(0, h, l), 1);
                Check.same("weight of " + call, x.weight(), w + high - low + 1);
                Check.same("width of " + call, x.width(1), high - low + 1);
                for (long a : new long[] {-1, 0x0123456789ABCDEFL, 0xAAAAAAAAAAAAAAAAL}) {
                    x.set(0, a);
                    long want = Reference.told(high - low + 1, Reference.number(w, a).shiftRight(low));
                    Check.same(call + " of " + a, x.value(1), want);
                }
            }
        }
    }

    private static void wrongArguments() {
        VectorBench x = new VectorBench();
        x.input(8);
        int[][] bad = {
            {0, 8, 0}, {0, 8, 8}, {0, 7, -1}, {0, -1, -1}, {0, -1, 0}, {0, 3, 4}, {0, 0, 7}, {0, 64, 0},
            {0, Integer.MAX_VALUE, 0}, {0, Integer.MIN_VALUE, 0}, {0, 7, Integer.MIN_VALUE},
            {0, 7, Integer.MAX_VALUE}, {0, Integer.MAX_VALUE, Integer.MIN_VALUE},
            {0, Integer.MIN_VALUE, Integer.MAX_VALUE}, {0, Integer.MAX_VALUE, Integer.MAX_VALUE},
            {0, Integer.MIN_VALUE, Integer.MIN_VALUE},
            {1, 0, 0}, {-1, 0, 0}, {4000, 0, 0}, {Integer.MAX_VALUE, 0, 0}, {Integer.MIN_VALUE, 0, 0},
        };
        for (int[] row : bad) {
            Check.refused(x, "extract(" + row[0] + ", " + row[1] + ", " + row[2] + ")",
                () -> x.extract(row[0], row[1], row[2]), Check.ARGUMENT);
        }
    }

    private static void fullBench() {
        VectorBench tight = Check.withRoom(3);
        Check.refused(tight, "extract of 4 with room for 3", () -> tight.extract(0, 5, 2), Check.STATE);
        Check.refused(tight, "extract of no bits with room for 3", () -> tight.extract(0, 8, 2), Check.ARGUMENT);
        Check.due("extract of 3 with room for 3", () -> tight.extract(0, 4, 2), tight.vectors());
        Check.due("weight()", tight::weight, 100000);
    }
}
