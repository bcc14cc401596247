/** Promise 7: a if c is 1, otherwise b. */
public final class Promise07ChooseTest {
    public static void main(String[] args) {
        for (int w = 1; w <= 64; w++) {
            values(w);
        }
        wrongArguments();
        fullBench();
        Check.end();
    }

    private static void values(int w) {
        VectorBench x = new VectorBench();
        x.input(1);
        x.input(w);
        x.input(w);
        Check.due("choose(0, 1, 2)", () -> x.choose(0, 1, 2), 3);
        Check.same("weight of choose at " + w, x.weight(), 1 + 2 * w + 4 * w);
        Check.same("width of choose", x.width(3), w);
        for (long a : Reference.edges(w)) {
            for (long b : Reference.edges(w)) {
                x.set(1, a);
                x.set(2, b);
                x.set(0, 1);
                Check.same("choose of 1, " + a + ", " + b, x.value(3), x.value(1));
                x.set(0, 0);
                Check.same("choose of 0, " + a + ", " + b, x.value(3), x.value(2));
            }
        }
    }

    private static void wrongArguments() {
        VectorBench x = new VectorBench();
        x.input(1);
        x.input(5);
        x.input(5);
        x.input(6);
        x.input(2);
        Check.refused(x, "choose by width 5", () -> x.choose(1, 1, 2), Check.ARGUMENT);
        Check.refused(x, "choose by width 2", () -> x.choose(4, 1, 2), Check.ARGUMENT);
        Check.refused(x, "choose of widths 5, 6", () -> x.choose(0, 1, 3), Check.ARGUMENT);
        Check.refused(x, "choose of widths 6, 5", () -> x.choose(0, 3, 1), Check.ARGUMENT);
        for (int bad : new int[] {-1, 5, 4000, Integer.MAX_VALUE, Integer.MIN_VALUE}) {
            Check.refused(x, "choose(" + bad + ", 1, 2)", () -> x.choose(bad, 1, 2), Check.ARGUMENT);
            Check.refused(x, "choose(0, " + bad + ", 2)", () -> x.choose(0, bad, 2), Check.ARGUMENT);
            Check.refused(x, "choose(0, 1, " + bad + ")", () -> x.choose(0, 1, bad), Check.ARGUMENT);
        }
    }

    private static void fullBench() {
        VectorBench x = new VectorBench();
        x.input(1);
        x.input(9);
        Check.fill(x, 37);
        Check.due("choose(0, 1, 1) of weight 36 with room for 37", () -> x.choose(0, 1, 1), x.vectors());
        Check.due("weight()", x::weight, 99999);
        Check.refused(x, "choose(0, 0, 0) with room for 1", () -> x.choose(0, 0, 0), Check.STATE);
        Check.refused(x, "choose(1, 0, 0) with room for 1", () -> x.choose(1, 0, 0), Check.ARGUMENT);
    }
}
