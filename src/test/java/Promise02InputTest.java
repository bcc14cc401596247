/** Promise 2: inputs of a width, with value 0, numbered in order. */
public final class Promise02InputTest {
    public static void main(String[] args) {
        everyWidth();
        wrongWidths();
        fullBench();
        Check.end();
    }

    private static void everyWidth() {
        VectorBench x = new VectorBench();
        int weight = 0;
        for (int w = 1; w <= 64; w++) {
            int width = w;
            Check.due("input(" + w + ")", () -> x.input(width), w - 1);
            Check.due("value(" + (w - 1) + ")", () -> x.value(width - 1), 0);
            Check.due("width(" + (w - 1) + ")", () -> x.width(width - 1), w);
            weight += w;
            Check.due("weight()", x::weight, weight);
            Check.due("vectors()", x::vectors, w);
        }
        Check.due("set(63, -1)", () -> x.set(63, -1), 0);
        Check.due("input(64) behind a set one", () -> x.input(64), 64);
        Check.due("value(64)", () -> x.value(64), 0);
        Check.due("value(63)", () -> x.value(63), -1);
    }

    private static void wrongWidths() {
        VectorBench x = new VectorBench();
        x.input(5);
        for (int w : new int[] {0, -1, 65, 66, 128, Integer.MAX_VALUE, Integer.MIN_VALUE}) {
            Check.refused(x, "input(" + w + ")", () -> x.input(w), Check.ARGUMENT);
        }
    }

    private static void fullBench() {
        VectorBench x = Check.withRoom(3);
        Check.refused(x, "input(4) with room for 3", () -> x.input(4), Check.STATE);
        Check.refused(x, "input(65) with room for 3", () -> x.input(65), Check.ARGUMENT);
        int next = x.vectors();
        Check.due("input(3) with room for 3", () -> x.input(3), next);
        Check.due("weight()", x::weight, 100000);
        Check.refused(x, "input(1) without room", () -> x.input(1), Check.STATE);
        Check.refused(x, "input(0) without room", () -> x.input(0), Check.ARGUMENT);
    }
}
