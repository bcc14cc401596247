/** Promise 6: comparisons, with a sign and without, as vectors of width 1. */
public final class Promise06CompareTest {
    public static void main(String[] args) {
        Check.sentence("6: A new vector of width 1, 1 if it holds", Promise06CompareTest::everyKind);
        Check.sentence("6: kind 0: a is b", Promise06CompareTest::isB);
        Check.sentence("6: without a sign: 1: a is less than b", Promise06CompareTest::less);
        Check.sentence("6: without a sign: 2: a is not greater", Promise06CompareTest::notGreater);
        Check.sentence("6: with a sign: 3: less", Promise06CompareTest::signLess);
        Check.sentence("6: with a sign: 4: not greater", Promise06CompareTest::signNotGreater);
        Check.sentence("6: .. of a and b of the same width", Promise06CompareTest::otherWidths);
        Check.sentence("6: Illegal argument", Promise06CompareTest::noSuchVector);
        Check.sentence("6: Illegal argument: also if kind is none of these", Promise06CompareTest::noSuchKind);
        Check.sentence("6: illegal state.", Promise06CompareTest::fullBench);
        Check.end();
    }

    private static void everyKind() {
        for (int w = 1; w <= 64; w++) {
            VectorBench x = allComparisons(w);
            if (w <= 5) {
                for (long a = 0; a < 1L << w; a++) {
                    for (long b = 0; b < 1L << w; b++) {
                        pair(x, w, a, b);
                    }
                }
            } else {
                for (long a : Reference.edges(w)) {
                    for (long b : Reference.edges(w)) {
                        pair(x, w, a, b);
                    }
                }
            }
        }
    }

    private static VectorBench allComparisons(int w) {
        VectorBench x = new VectorBench();
        x.input(w);
        x.input(w);
        for (int kind = 0; kind < Reference.COMPARISONS; kind++) {
            int k = kind;
            Check.due("compare(" + kind + ", 0, 1)", () -> x.compare(k, 0, 1), kind + 2);
            Check.same("width of a comparison", x.width(kind + 2), 1);
            Check.same("weight", x.weight(), 2 * w + (kind + 1) * 10 * w);
        }
        return x;
    }

    private static void pair(VectorBench x, int w, long a, long b) {
        x.set(0, a);
        x.set(1, b);
        for (int kind = 0; kind < Reference.COMPARISONS; kind++) {
            Check.same("width " + w + ": compare " + kind + " of " + a + " and " + b,
                x.value(kind + 2), Reference.compare(kind, w, a, b));
        }
    }

    private static void gives(int kind, int w, long a, long b, long want) {
        VectorBench x = new VectorBench();
        x.input(w);
        x.constant(w, b);
        x.compare(kind, 0, 1);
        x.set(0, a);
        Check.same("width " + w + ": compare " + kind + " of " + a + " and " + b, x.value(2), want);
    }

    /** Bits that differ anywhere tell them apart, be it the lowest or the highest alone. */
    private static void isB() {
        for (int w = 1; w <= 64; w++) {
            gives(0, w, 0, 0, 1);
            gives(0, w, -1, -1, 1);
            for (int i = 0; i < w; i++) {
                gives(0, w, 1L << i, 0, 0);
                gives(0, w, -1, ~(1L << i), 0);
                gives(0, w, 1L << i, 1L << i, 1);
            }
        }
    }

    private static void less() {
        for (int w = 1; w <= 64; w++) {
            long top = 1L << (w - 1);
            gives(1, w, 0, 0, 0);
            gives(1, w, -1, -1, 0);
            gives(1, w, 0, 1, 1);
            gives(1, w, 1, 0, 0);
            gives(1, w, 0, -1, 1);
            gives(1, w, -1, 0, 0);
            gives(1, w, top - 1, top, 1);
            gives(1, w, top, top - 1, 0);
            gives(1, w, top, top, 0);
        }
    }

    private static void notGreater() {
        for (int w = 1; w <= 64; w++) {
            long top = 1L << (w - 1);
            gives(2, w, 0, 0, 1);
            gives(2, w, -1, -1, 1);
            gives(2, w, 0, 1, 1);
            gives(2, w, 1, 0, 0);
            gives(2, w, 0, -1, 1);
            gives(2, w, -1, 0, 0);
            gives(2, w, top - 1, top, 1);
            gives(2, w, top, top - 1, 0);
            gives(2, w, top, top, 1);
        }
    }

    private static void signLess() {
        for (int w = 1; w <= 64; w++) {
            long top = 1L << (w - 1);
            gives(3, w, 0, 0, 0);
            gives(3, w, -1, -1, 0);
            gives(3, w, -1, 0, 1);
            gives(3, w, 0, -1, 0);
            gives(3, w, top, top - 1, 1);
            gives(3, w, top - 1, top, 0);
            gives(3, w, top, top, 0);
        }
        for (int w = 2; w <= 64; w++) {
            long top = 1L << (w - 1);
            gives(3, w, 0, 1, 1);
            gives(3, w, 1, 0, 0);
            gives(3, w, top, top + 1, 1);
            gives(3, w, top + 1, top, 0);
        }
    }

    private static void signNotGreater() {
        for (int w = 1; w <= 64; w++) {
            long top = 1L << (w - 1);
            gives(4, w, 0, 0, 1);
            gives(4, w, -1, -1, 1);
            gives(4, w, -1, 0, 1);
            gives(4, w, 0, -1, 0);
            gives(4, w, top, top - 1, 1);
            gives(4, w, top - 1, top, 0);
            gives(4, w, top, top, 1);
        }
        for (int w = 2; w <= 64; w++) {
            long top = 1L << (w - 1);
            gives(4, w, 0, 1, 1);
            gives(4, w, 1, 0, 0);
            gives(4, w, top, top + 1, 1);
            gives(4, w, top + 1, top, 0);
        }
    }

    private static VectorBench small() {
        VectorBench x = new VectorBench();
        x.input(5);
        x.input(5);
        x.input(6);
        return x;
    }

    private static void otherWidths() {
        VectorBench x = small();
        for (int kind = 0; kind < Reference.COMPARISONS; kind++) {
            int k = kind;
            Check.refused(x, "compare(" + k + ", 0, 2)", () -> x.compare(k, 0, 2), Check.ARGUMENT);
            Check.refused(x, "compare(" + k + ", 2, 0)", () -> x.compare(k, 2, 0), Check.ARGUMENT);
        }
    }

    private static void noSuchVector() {
        VectorBench x = small();
        for (int kind = 0; kind < Reference.COMPARISONS; kind++) {
            int k = kind;
            for (int bad : Check.noVectors(x)) {
                Check.refused(x, "compare(" + k + ", 0, " + bad + ")", () -> x.compare(k, 0, bad), Check.ARGUMENT);
                Check.refused(x, "compare(" + k + ", " + bad + ", 0)", () -> x.compare(k, bad, 0), Check.ARGUMENT);
            }
        }
    }

    private static void noSuchKind() {
        VectorBench x = small();
        for (int bad : new int[] {-2, -1, 5, 6, Integer.MAX_VALUE, Integer.MIN_VALUE}) {
            Check.refused(x, "compare(" + bad + ", 0, 1)", () -> x.compare(bad, 0, 1), Check.ARGUMENT);
        }
    }

    private static void fullBench() {
        for (int kind = 0; kind < Reference.COMPARISONS; kind++) {
            int k = kind;
            VectorBench tight = Check.withRoom(79);
            Check.refused(tight, "compare with too little room", () -> tight.compare(k, 0, 0), Check.STATE);
            Check.refused(tight, "compare of kind 5 with too little room",
                () -> tight.compare(5, 0, 0), Check.ARGUMENT);
            Check.refused(tight, "compare of other widths with too little room",
                () -> tight.compare(k, 0, 1), Check.ARGUMENT);
            VectorBench enough = Check.withRoom(80);
            Check.due("compare with just enough room", () -> enough.compare(k, 0, 0), enough.vectors());
            Check.due("weight()", enough::weight, 100000);
        }
    }
}
