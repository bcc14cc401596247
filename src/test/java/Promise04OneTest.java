/** Promise 4: NOT and NEG. */
public final class Promise04OneTest {
    public static void main(String[] args) {
        Check.sentence("4: A new vector of the width of a", Promise04OneTest::widthOfA);
        Check.sentence("4: kind 0: NOT, each bit otherwise", Promise04OneTest::not);
        Check.sentence("4: 1: NEG, 0 less it.", Promise04OneTest::neg);
        Check.sentence("4: Illegal argument", Promise04OneTest::noSuchVector);
        Check.sentence("4: Illegal argument: also if kind is none of these", Promise04OneTest::noSuchKind);
        Check.sentence("4: illegal state.", Promise04OneTest::fullBench);
        Check.end();
    }

    private static void widthOfA() {
        for (int w = 1; w <= 64; w++) {
            VectorBench x = new VectorBench();
            x.input(w);
            for (int kind = 0; kind < Reference.ONES; kind++) {
                int k = kind;
                int before = x.weight();
                Check.due("one(" + kind + ", 0)", () -> x.one(k, 0), kind + 1);
                Check.same("weight of one " + kind, x.weight() - before, Reference.weightOfOne(kind, w));
                Check.same("width of one " + kind, x.width(kind + 1), w);
            }
        }
    }

    private static void gives(int kind, int w, long a, long want) {
        VectorBench x = new VectorBench();
        x.input(w);
        x.constant(w, a);
        x.one(kind, 0);
        x.one(kind, 1);
        x.set(0, a);
        Check.same("width " + w + ": one " + kind + " of an input " + a, x.value(2), want);
        Check.same("width " + w + ": one " + kind + " of a constant " + a, x.value(3), want);
    }

    private static void not() {
        for (int w = 1; w <= 64; w++) {
            long ones = -1L >>> (64 - w);
            gives(0, w, 0, ones);
            gives(0, w, -1, 0);
            for (int i = 0; i < w; i++) {
                gives(0, w, 1L << i, ones ^ 1L << i);
            }
            for (long a : Reference.edges(w)) {
                gives(0, w, a, Reference.one(0, w, a));
            }
        }
    }

    private static void neg() {
        for (int w = 1; w <= 64; w++) {
            long ones = -1L >>> (64 - w);
            gives(1, w, 0, 0);
            gives(1, w, 1, ones);
            gives(1, w, -1, 1);
            gives(1, w, 1L << (w - 1), 1L << (w - 1));
            for (long a : Reference.edges(w)) {
                gives(1, w, a, Reference.one(1, w, a));
            }
        }
    }

    private static void noSuchVector() {
        VectorBench x = new VectorBench();
        x.input(5);
        for (int bad : Check.noVectors(x)) {
            Check.refused(x, "one(0, " + bad + ")", () -> x.one(0, bad), Check.ARGUMENT);
            Check.refused(x, "one(1, " + bad + ")", () -> x.one(1, bad), Check.ARGUMENT);
        }
    }

    private static void noSuchKind() {
        VectorBench x = new VectorBench();
        x.input(5);
        for (int bad : new int[] {-2, -1, 2, 3, Integer.MAX_VALUE, Integer.MIN_VALUE}) {
            Check.refused(x, "one(" + bad + ", 0)", () -> x.one(bad, 0), Check.ARGUMENT);
        }
    }

    private static void fullBench() {
        fullBench(0, 8);
        fullBench(1, 80);
    }

    private static void fullBench(int kind, int weight) {
        VectorBench tight = Check.withRoom(weight - 1);
        Check.refused(tight, "one with too little room", () -> tight.one(kind, 0), Check.STATE);
        Check.refused(tight, "one of kind 2 with too little room", () -> tight.one(2, 0), Check.ARGUMENT);
        Check.refused(tight, "one of none with too little room", () -> tight.one(kind, 4000), Check.ARGUMENT);
        VectorBench enough = Check.withRoom(weight);
        Check.due("one with just enough room", () -> enough.one(kind, 0), enough.vectors());
        Check.due("weight()", enough::weight, 100000);
    }
}
