/** Promise 2: inputs of a width, with value 0, numbered in order. */
public final class Promise02InputTest {
    public static void main(String[] args) {
        Check.sentence("2: A new input of a width ..: its number.", Promise02InputTest::everyWidth);
        Check.sentence("2: .. whose value is 0", Promise02InputTest::startsAtZero);
        Check.sentence("2: Illegal argument: the width is not 1 .. 64", Promise02InputTest::wrongWidths);
        Check.sentence("2: illegal state.", Promise02InputTest::fullBench);
        Check.end();
    }

    private static void everyWidth() {
        VectorBench x = new VectorBench();
        int weight = 0;
        for (int w = 1; w <= 64; w++) {
            int width = w;
            Check.due("input(" + w + ")", () -> x.input(width), w - 1);
            Check.due("width(" + (w - 1) + ")", () -> x.width(width - 1), w);
            weight += w;
            Check.due("weight()", x::weight, weight);
            Check.due("vectors()", x::vectors, w);
        }
        for (int w = 1; w <= 64; w++) {
            int v = w - 1;
            Check.due("set of the input of width " + w, () -> x.set(v, -1), 0);
            Check.due("its value", () -> x.value(v), -1L >>> (64 - w));
        }
    }

    /** Also behind inputs that are set and behind gates that are 1. */
    private static void startsAtZero() {
        for (int w = 1; w <= 64; w++) {
            VectorBench x = new VectorBench();
            x.input(w);
            Check.due("value of a new input of " + w, () -> x.value(0), 0);
            x.set(0, -1);
            x.one(0, 0);
            x.two(1, 0, 0);
            x.input(w);
            Check.due("value of another one of " + w, () -> x.value(3), 0);
            Check.due("what is set in it first", () -> x.set(3, 1), 0);
            Check.due("value of the first one of " + w, () -> x.value(0), -1L >>> (64 - w));
        }
    }

    private static void wrongWidths() {
        VectorBench x = new VectorBench();
        x.input(5);
        for (int w : new int[] {0, -1, -64, 65, 66, 128, Integer.MAX_VALUE, Integer.MIN_VALUE}) {
            Check.refused(x, "input(" + w + ")", () -> x.input(w), Check.ARGUMENT);
        }
        Check.due("input(1)", () -> x.input(1), 1);
        Check.due("input(64)", () -> x.input(64), 2);
    }

    private static void fullBench() {
        VectorBench x = Check.withRoom(3);
        Check.refused(x, "input(4) with room for 3", () -> x.input(4), Check.STATE);
        Check.refused(x, "input(64) with room for 3", () -> x.input(64), Check.STATE);
        Check.refused(x, "input(65) with room for 3", () -> x.input(65), Check.ARGUMENT);
        int next = x.vectors();
        Check.due("input(3) with room for 3", () -> x.input(3), next);
        Check.due("weight()", x::weight, 100000);
        Check.refused(x, "input(1) without room", () -> x.input(1), Check.STATE);
        Check.refused(x, "input(0) without room", () -> x.input(0), Check.ARGUMENT);
    }
}
