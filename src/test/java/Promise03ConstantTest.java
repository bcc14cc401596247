/** Promise 3: vectors that always have a value; bits above the width count for nothing. */
public final class Promise03ConstantTest {
    public static void main(String[] args) {
        everyWidth();
        wrongWidths();
        fullBench();
        Check.end();
    }

    private static void everyWidth() {
        for (int w = 1; w <= 64; w++) {
            VectorBench x = new VectorBench();
            int width = w;
            int next = 0;
            for (long value : Reference.edges(w)) {
                String call = "constant(" + w + ", " + value + ")";
                Check.due(call, () -> x.constant(width, value), next);
                int v = next;
                Check.due("value of " + call, () -> x.value(v), Reference.told(w, Reference.number(w, value)));
                Check.due("width of " + call, () -> x.width(v), w);
                next++;
            }
            Check.due("weight()", x::weight, next * w);
            Check.refused(x, "set of a constant", () -> x.set(0, 1), Check.ARGUMENT);
        }
    }

    private static void wrongWidths() {
        VectorBench x = new VectorBench();
        x.input(5);
        for (int w : new int[] {0, -1, 65, 66, 128, Integer.MAX_VALUE, Integer.MIN_VALUE}) {
            Check.refused(x, "constant(" + w + ", 1)", () -> x.constant(w, 1), Check.ARGUMENT);
        }
    }

    private static void fullBench() {
        VectorBench x = Check.withRoom(64);
        Check.due("constant(64, 9) with room for 64", () -> x.constant(64, 9), x.vectors());
        Check.due("weight()", x::weight, 100000);
        Check.refused(x, "constant(1, 1) without room", () -> x.constant(1, 1), Check.STATE);
        Check.refused(x, "constant(65, 1) without room", () -> x.constant(65, 1), Check.ARGUMENT);
    }
}
