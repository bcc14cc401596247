/** Promise 3: vectors that always have a value; bits above the width count for nothing. */
public final class Promise03ConstantTest {
    public static void main(String[] args) {
        Check.sentence("3: A new vector that .. has a value: its number.", Promise03ConstantTest::everyWidth);
        Check.sentence("3: .. that always has a value", Promise03ConstantTest::always);
        Check.sentence("3: Illegal argument: the width is not 1 .. 64", Promise03ConstantTest::wrongWidths);
        Check.sentence("3: illegal state.", Promise03ConstantTest::fullBench);
        Check.end();
    }

    private static void everyWidth() {
        for (int w = 1; w <= 64; w++) {
            VectorBench x = new VectorBench();
            int width = w;
            int next = 0;
            for (long value : Reference.edges(w)) {
                String call = "constant(" + w + ", " + value + ")";
                Check.due(call, () -> x.constant(width, value), next);
                int v = next;
                Check.due("value of " + call, () -> x.value(v), Reference.told(w, Reference.number(w, value)));
                Check.due("width of " + call, () -> x.width(v), w);
                next++;
            }
            Check.due("weight()", x::weight, next * w);
        }
    }

    private static void always() {
        for (int w = 1; w <= 64; w++) {
            VectorBench x = new VectorBench();
            x.input(w);
            x.constant(w, 1);
            x.constant(w, -1);
            x.one(0, 2);
            long ones = -1L >>> (64 - w);
            for (long value : new long[] {-1, 0, 1}) {
                x.set(0, value);
                Check.due("constant 1 of " + w, () -> x.value(1), 1);
                Check.due("constant -1 of " + w, () -> x.value(2), ones);
                Check.due("NOT of the constant", () -> x.value(3), 0);
            }
            Check.refused(x, "set of a constant", () -> x.set(1, 0), Check.ARGUMENT);
            Check.refused(x, "set of a constant to what it has", () -> x.set(1, 1), Check.ARGUMENT);
        }
    }

    private static void wrongWidths() {
        VectorBench x = new VectorBench();
        x.input(5);
        for (int w : new int[] {0, -1, -64, 65, 66, 128, Integer.MAX_VALUE, Integer.MIN_VALUE}) {
            Check.refused(x, "constant(" + w + ", 1)", () -> x.constant(w, 1), Check.ARGUMENT);
        }
        Check.due("constant(1, 1)", () -> x.constant(1, 1), 1);
        Check.due("constant(64, 1)", () -> x.constant(64, 1), 2);
    }

    private static void fullBench() {
        VectorBench tight = Check.withRoom(63);
        Check.refused(tight, "constant(64, 9) with room for 63", () -> tight.constant(64, 9), Check.STATE);
        VectorBench x = Check.withRoom(64);
        Check.due("constant(64, 9) with room for 64", () -> x.constant(64, 9), x.vectors());
        Check.due("weight()", x::weight, 100000);
        Check.refused(x, "constant(1, 1) without room", () -> x.constant(1, 1), Check.STATE);
        Check.refused(x, "constant(65, 1) without room", () -> x.constant(65, 1), Check.ARGUMENT);
        Check.refused(x, "constant(0, 1) without room", () -> x.constant(0, 1), Check.ARGUMENT);
    }
}
