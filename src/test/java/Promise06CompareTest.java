/** Promise 6: comparisons, with a sign and without, as vectors of width 1. */
public final class Promise06CompareTest {
    public static void main(String[] args) {
        for (int w = 1; w <= 64; w++) {
            values(w);
        }
        wrongArguments();
        fullBench();
        Check.end();
    }

    private static void values(int w) {
        VectorBench x = new VectorBench();
        x.input(w);
        x.input(w);
        for (int kind = 0; kind < Reference.COMPARISONS; kind++) {
            int k = kind;
            Check.due("compare(" + kind + ", 0, 1)", () -> x.compare(k, 0, 1), kind + 2);
            Check.same("width of a comparison", x.width(kind + 2), 1);
            Check.same("weight", x.weight(), 2 * w + (kind + 1) * 10 * w);
        }
        if (w <= 5) {
            for (long a = 0; a < 1L << w; a++) {
                for (long b = 0; b < 1L << w; b++) {
                    pair(x, w, a, b);
                }
            }
        } else {
            for (long a : Reference.edges(w)) {
                for (long b : Reference.edges(w)) {
                    pair(x, w, a, b);
                }
            }
        }
    }

    private static void pair(VectorBench x, int w, long a, long b) {
        x.set(0, a);
        x.set(1, b);
        for (int kind = 0; kind < Reference.COMPARISONS; kind++) {
            Check.same("width " + w + ": compare " + kind + " of " + a + " and " + b,
                x.value(kind + 2), Reference.compare(kind, w, a, b));
        }
    }

    private static void wrongArguments() {
        VectorBench x = new VectorBench();
        x.input(5);
        x.input(5);
        x.input(6);
        for (int bad : new int[] {-1, 5, 6, Integer.MAX_VALUE, Integer.MIN_VALUE}) {
            Check.refused(x, "compare(" + bad + ", 0, 1)", () -> x.compare(bad, 0, 1), Check.ARGUMENT);
        }
        for (int kind = 0; kind < Reference.COMPARISONS; kind++) {
            int k = kind;
            for (int bad : new int[] {-1, 3, 4000, Integer.MAX_VALUE, Integer.MIN_VALUE}) {
                Check.refused(x, "compare(" + k + ", 0, " + bad + ")", () -> x.compare(k, 0, bad), Check.ARGUMENT);
                Check.refused(x, "compare(" + k + ", " + bad + ", 0)", () -> x.compare(k, bad, 0), Check.ARGUMENT);
            }
            Check.refused(x, "compare(" + k + ", 0, 2)", () -> x.compare(k, 0, 2), Check.ARGUMENT);
            Check.refused(x, "compare(" + k + ", 2, 0)", () -> x.compare(k, 2, 0), Check.ARGUMENT);
        }
    }

    private static void fullBench() {
        for (int kind = 0; kind < Reference.COMPARISONS; kind++) {
            int k = kind;
            VectorBench tight = Check.withRoom(79);
            Check.refused(tight, "compare with too little room", () -> tight.compare(k, 0, 0), Check.STATE);
            Check.refused(tight, "compare of kind 5 with too little room",
                () -> tight.compare(5, 0, 0), Check.ARGUMENT);
            VectorBench enough = Check.withRoom(80);
            Check.due("compare with just enough room", () -> enough.compare(k, 0, 0), enough.vectors());
            Check.due("weight()", enough::weight, 100000);
        }
    }
}
