/** Promise 7: a if c is 1, otherwise b. */
public final class Promise07ChooseTest {
    public static void main(String[] args) {
        Check.sentence("7: A new vector: a, if c is 1, otherwise b", Promise07ChooseTest::everyWidth);
        Check.sentence("7: c, a and b may be one vector", Promise07ChooseTest::sameVector);
        Check.sentence("7: c (of width 1)", Promise07ChooseTest::widthOfC);
        Check.sentence("7: b (of the same width as a)", Promise07ChooseTest::widthOfB);
        Check.sentence("7: Illegal argument", Promise07ChooseTest::noSuchVector);
        Check.sentence("7: illegal state.", Promise07ChooseTest::fullBench);
        Check.end();
    }

    private static void everyWidth() {
        for (int w = 1; w <= 64; w++) {
            values(w);
        }
    }

    private static void values(int w) {
        VectorBench x = new VectorBench();
        x.input(1);
        x.input(w);
        x.input(w);
        Check.due("choose(0, 1, 2)", () -> x.choose(0, 1, 2), 3);
        Check.same("weight of choose at " + w, x.weight(), 1 + 2 * w + 4 * w);
        Check.same("width of choose", x.width(3), w);
        for (long a : Reference.edges(w)) {
            for (long b : Reference.edges(w)) {
                x.set(1, a);
                x.set(2, b);
                x.set(0, 1);
                Check.same("choose of 1, " + a + ", " + b, x.value(3), a & -1L >>> (64 - w));
                x.set(0, 0);
                Check.same("choose of 0, " + a + ", " + b, x.value(3), b & -1L >>> (64 - w));
            }
        }
    }

    private static void sameVector() {
        VectorBench x = new VectorBench();
        x.input(1);
        x.constant(1, 0);
        x.constant(1, 1);
        x.choose(0, 0, 0);
        x.choose(0, 1, 0);
        x.choose(0, 0, 2);
        long[][] wants = {{0, 0, 1}, {1, 0, 1}};
        for (int c = 0; c < 2; c++) {
            x.set(0, c);
            Check.same("choose(0, 0, 0) of " + c, x.value(3), wants[c][0]);
            Check.same("choose(0, 1, 0) of " + c, x.value(4), wants[c][1]);
            Check.same("choose(0, 0, 2) of " + c, x.value(5), wants[c][2]);
        }
    }

    private static VectorBench small() {
        VectorBench x = new VectorBench();
        x.input(1);
        x.input(5);
        x.input(5);
        x.input(6);
        x.input(2);
        x.input(64);
        return x;
    }

    private static void widthOfC() {
        VectorBench x = small();
        Check.refused(x, "choose by width 2", () -> x.choose(4, 1, 2), Check.ARGUMENT);
        Check.refused(x, "choose by width 5", () -> x.choose(1, 1, 2), Check.ARGUMENT);
        Check.refused(x, "choose by width 64", () -> x.choose(5, 1, 2), Check.ARGUMENT);
        Check.refused(x, "choose by width 2 of width 1", () -> x.choose(4, 0, 0), Check.ARGUMENT);
        Check.due("choose by width 1", () -> x.choose(0, 1, 2), 6);
    }

    private static void widthOfB() {
        VectorBench x = small();
        Check.refused(x, "choose of widths 5, 6", () -> x.choose(0, 1, 3), Check.ARGUMENT);
        Check.refused(x, "choose of widths 6, 5", () -> x.choose(0, 3, 1), Check.ARGUMENT);
        Check.refused(x, "choose of widths 1, 64", () -> x.choose(0, 0, 5), Check.ARGUMENT);
        Check.refused(x, "choose of widths 64, 1", () -> x.choose(0, 5, 0), Check.ARGUMENT);
    }

    private static void noSuchVector() {
        VectorBench x = small();
        for (int bad : Check.noVectors(x)) {
            Check.refused(x, "choose(" + bad + ", 1, 2)", () -> x.choose(bad, 1, 2), Check.ARGUMENT);
            Check.refused(x, "choose(0, " + bad + ", 2)", () -> x.choose(0, bad, 2), Check.ARGUMENT);
            Check.refused(x, "choose(0, 1, " + bad + ")", () -> x.choose(0, 1, bad), Check.ARGUMENT);
        }
    }

    private static void fullBench() {
        VectorBench tight = new VectorBench();
        tight.input(1);
        tight.input(9);
        Check.fill(tight, 35);
        Check.refused(tight, "choose of weight 36 with room for 35", () -> tight.choose(0, 1, 1), Check.STATE);
        Check.refused(tight, "choose by width 9 with room for 35", () -> tight.choose(1, 1, 1), Check.ARGUMENT);
        Check.refused(tight, "choose of other widths with room for 35",
            () -> tight.choose(0, 1, 2), Check.ARGUMENT);
        VectorBench enough = new VectorBench();
        enough.input(1);
        enough.input(9);
        Check.fill(enough, 36);
        Check.due("choose of weight 36 with room for 36", () -> enough.choose(0, 1, 1), enough.vectors());
        Check.due("weight()", enough::weight, 100000);
    }
}
