/** Promise 4: NOT and NEG. */
public final class Promise04OneTest {
    public static void main(String[] args) {
        values();
        wrongArguments();
        fullBench(0, 8);
        fullBench(1, 80);
        Check.end();
    }

    private static void values() {
        for (int w = 1; w <= 64; w++) {
            VectorBench x = new VectorBench();
            x.input(w);
            for (int kind = 0; kind < Reference.ONES; kind++) {
                int k = kind;
                int before = x.weight();
                Check.due("one(" + kind + ", 0)", () -> x.one(k, 0), kind + 1);
                Check.same("weight of one " + kind, x.weight() - before, Reference.weightOfOne(kind, w));
                Check.same("width of one " + kind, x.width(kind + 1), w);
            }
            for (long a : Reference.edges(w)) {
                x.set(0, a);
                for (int kind = 0; kind < Reference.ONES; kind++) {
                    Check.same("width " + w + ": one " + kind + " of " + a,
                        x.value(kind + 1), Reference.one(kind, w, a));
                }
            }
        }
    }

    private static void wrongArguments() {
        VectorBench x = new VectorBench();
        x.input(5);
        for (int bad : new int[] {-1, 2, 3, Integer.MAX_VALUE, Integer.MIN_VALUE}) {
            Check.refused(x, "one(" + bad + ", 0)", () -> x.one(bad, 0), Check.ARGUMENT);
        }
        for (int bad : new int[] {-1, 1, 4000, Integer.MAX_VALUE, Integer.MIN_VALUE}) {
            Check.refused(x, "one(0, " + bad + ")", () -> x.one(0, bad), Check.ARGUMENT);
            Check.refused(x, "one(1, " + bad + ")", () -> x.one(1, bad), Check.ARGUMENT);
        }
    }

    private static void fullBench(int kind, int weight) {
        VectorBench tight = Check.withRoom(weight - 1);
        Check.refused(tight, "one with too little room", () -> tight.one(kind, 0), Check.STATE);
        Check.refused(tight, "one of kind 2 with too little room", () -> tight.one(2, 0), Check.ARGUMENT);
        Check.refused(tight, "one of none with too little room", () -> tight.one(kind, 4000), Check.ARGUMENT);
        VectorBench enough = Check.withRoom(weight);
        Check.due("one with just enough room", () -> enough.one(kind, 0), enough.vectors());
        Check.due("weight()", enough::weight, 100000);
    }
}
