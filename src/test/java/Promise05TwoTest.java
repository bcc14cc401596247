/** Promise 5: what is reckoned of two vectors of the same width. */
public final class Promise05TwoTest {
    public static void main(String[] args) {
        for (int kind = 0; kind < Reference.TWOS; kind++) {
            for (int w = 1; w <= 5; w++) {
                allValues(kind, w);
            }
            for (int w = 6; w <= 64; w++) {
                someValues(kind, w);
            }
            sameVectorTwice(kind);
            fullBench(kind);
        }
        named();
        wrongArguments();
        Check.end();
    }

    private static VectorBench bench(int kind, int w) {
        VectorBench x = new VectorBench();
        x.input(w);
        x.input(w);
        Check.due("two(" + kind + ", 0, 1)", () -> x.two(kind, 0, 1), 2);
        Check.same("weight of two " + kind + " at " + w, x.weight(), 2 * w + Reference.weightOfTwo(kind, w));
        Check.same("width of two " + kind, x.width(2), w);
        return x;
    }

    private static void one(VectorBench x, int kind, int w, long a, long b) {
        x.set(0, a);
        x.set(1, b);
        Check.same("width " + w + ": two " + kind + " of " + a + " and " + b,
            x.value(2), Reference.two(kind, w, a, b));
    }

    private static void allValues(int kind, int w) {
        VectorBench x = bench(kind, w);
        for (long a = 0; a < 1L << w; a++) {
            for (long b = 0; b < 1L << w; b++) {
                one(x, kind, w, a, b);
            }
        }
    }

    private static void someValues(int kind, int w) {
        VectorBench x = bench(kind, w);
        for (long a : Reference.edges(w)) {
            for (long b : Reference.edges(w)) {
                one(x, kind, w, a, b);
            }
        }
        Reference.Dice dice = new Reference.Dice(100L * kind + w);
        for (int i = 0; i < 30; i++) {
            one(x, kind, w, dice.next(), dice.next() >>> dice.below(64));
        }
    }

    private static void sameVectorTwice(int kind) {
        VectorBench x = new VectorBench();
        x.input(9);
        x.two(kind, 0, 0);
        for (long a = 0; a < 512; a++) {
            x.set(0, a);
            Check.same("two " + kind + " of " + a + " with itself", x.value(1), Reference.two(kind, 9, a, a));
        }
    }

    /** Cases that the document names, each with an answer written by hand. */
    private static void named() {
        long[][] rows = {
            {6, 200, 0, 255}, {7, 200, 0, 200}, {6, 200, 7, 28}, {7, 200, 7, 4},
            {8, 200, 0, 1}, {8, 100, 0, 255}, {8, 0, 0, 255}, {9, 200, 0, 200},
            {8, 249, 2, 253}, {9, 249, 2, 255}, {8, 7, 254, 253}, {9, 7, 254, 1},
            {8, 128, 255, 128}, {9, 128, 255, 0},
            {10, 255, 7, 128}, {10, 255, 8, 0}, {10, 255, 128, 0},
            {11, 255, 7, 1}, {11, 255, 8, 0}, {11, 255, 255, 0},
            {12, 128, 7, 255}, {12, 128, 8, 255}, {12, 127, 8, 0}, {12, 129, 1, 192},
            {3, 255, 1, 0}, {4, 0, 1, 255}, {5, 16, 17, 16}, {0, 12, 10, 8}, {1, 12, 10, 14}, {2, 12, 10, 6},
        };
        for (long[] row : rows) {
            VectorBench x = new VectorBench();
            x.constant(8, row[1]);
            x.constant(8, row[2]);
            x.two((int) row[0], 0, 1);
            Check.same("two " + row[0] + " of " + row[1] + " and " + row[2], x.value(2), row[3]);
        }
    }

    private static void wrongArguments() {
        VectorBench x = new VectorBench();
        x.input(5);
        x.input(5);
        x.input(6);
        for (int bad : new int[] {-1, 13, 14, 100, Integer.MAX_VALUE, Integer.MIN_VALUE}) {
            Check.refused(x, "two(" + bad + ", 0, 1)", () -> x.two(bad, 0, 1), Check.ARGUMENT);
        }
        for (int kind = 0; kind < Reference.TWOS; kind++) {
            int k = kind;
            for (int bad : new int[] {-1, 3, 4000, Integer.MAX_VALUE, Integer.MIN_VALUE}) {
                Check.refused(x, "two(" + k + ", 0, " + bad + ")", () -> x.two(k, 0, bad), Check.ARGUMENT);
                Check.refused(x, "two(" + k + ", " + bad + ", 0)", () -> x.two(k, bad, 0), Check.ARGUMENT);
                Check.refused(x, "two(" + k + ", twice " + bad + ")", () -> x.two(k, bad, bad), Check.ARGUMENT);
            }
            Check.refused(x, "two(" + k + ", 0, 2)", () -> x.two(k, 0, 2), Check.ARGUMENT);
            Check.refused(x, "two(" + k + ", 2, 0)", () -> x.two(k, 2, 0), Check.ARGUMENT);
        }
    }

    private static void fullBench(int kind) {
        int weight = Reference.weightOfTwo(kind, 8);
        VectorBench tight = Check.withRoom(weight - 1);
        Check.refused(tight, "two with too little room", () -> tight.two(kind, 0, 0), Check.STATE);
        Check.refused(tight, "two of kind 13 with too little room", () -> tight.two(13, 0, 0), Check.ARGUMENT);
        Check.refused(tight, "two of other widths with too little room", () -> tight.two(kind, 0, 1), Check.ARGUMENT);
        VectorBench enough = Check.withRoom(weight);
        Check.due("two with just enough room", () -> enough.two(kind, 0, 0), enough.vectors());
        Check.due("weight()", enough::weight, 100000);
    }
}
