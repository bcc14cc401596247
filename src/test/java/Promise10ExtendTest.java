/** Promise 10: so many bits more above, 0 or like the highest one. */
public final class Promise10ExtendTest {
    public static void main(String[] args) {
        Check.sentence("10: A new vector that is a with so many bits more above", Promise10ExtendTest::everyWidth);
        Check.sentence("10: perhaps none", Promise10ExtendTest::none);
        Check.sentence("10: all 0", Promise10ExtendTest::allZero);
        Check.sentence("10: or (signed) like its highest one", Promise10ExtendTest::likeTheHighest);
        Check.sentence("10: Illegal argument", Promise10ExtendTest::noSuchVector);
        Check.sentence("10: Illegal argument: also if by is less than 0", Promise10ExtendTest::lessThanNone);
        Check.sentence("10: .. or it were wider than 64", Promise10ExtendTest::tooWide);
        Check.sentence("10: illegal state.", Promise10ExtendTest::fullBench);
        Check.end();
    }

    private static void everyWidth() {
        for (int w = 1; w <= 64; w++) {
            for (int by = 0; w + by <= 64; by++) {
                values(w, by);
            }
        }
    }

    private static void values(int w, int by) {
        VectorBench x = new VectorBench();
        x.input(w);
        Check.due("extend(0, " + by + ", false)", () -> x.extend(0, by, false), 1);
        Check.due("extend(0, " + by + ", true)", () -> x.extend(0, by, true), 2);
        Check.same("weight of extend", x.weight(), w + 2 * (w + by));
        Check.same("width of extend", x.width(1), w + by);
        Check.same("width of extend", x.width(2), w + by);
        for (long a : new long[] {0, 1, -1, 1L << (w - 1), ~(1L << (w - 1)), 0x0123456789ABCDEFL}) {
            x.set(0, a);
            Check.same("extend of " + a, x.value(1), Reference.told(w + by, Reference.number(w, a)));
            Check.same("extend with sign of " + a, x.value(2), Reference.told(w + by, Reference.signed(w, a)));
        }
    }

    private static void none() {
        for (int w = 1; w <= 64; w++) {
            for (boolean signed : new boolean[] {false, true}) {
                VectorBench x = new VectorBench();
                x.input(w);
                Check.due("extend(0, 0) of width " + w, () -> x.extend(0, 0, signed), 1);
                Check.due("its width", () -> x.width(1), w);
                Check.due("weight()", x::weight, 2 * w);
                x.set(0, -1);
                Check.due("its value", () -> x.value(1), -1L >>> (64 - w));
                Check.refused(x, "set of it", () -> x.set(1, 0), Check.ARGUMENT);
            }
        }
    }

    private static void allZero() {
        for (int w = 1; w <= 64; w++) {
            VectorBench x = new VectorBench();
            x.constant(w, -1);
            x.extend(0, 64 - w, false);
            Check.due("all bits of " + w + ", extended to 64", () -> x.value(1), -1L >>> (64 - w));
        }
    }

    private static void likeTheHighest() {
        for (int w = 1; w <= 64; w++) {
            VectorBench x = new VectorBench();
            x.input(w);
            x.extend(0, 64 - w, true);
            x.set(0, 1L << (w - 1));
            Check.due("the highest bit of " + w + ", extended to 64", () -> x.value(1), -1L << (w - 1));
            x.set(0, (1L << (w - 1)) - 1);
            Check.due("the other bits of " + w + ", extended to 64", () -> x.value(1), (1L << (w - 1)) - 1);
        }
    }

    private static void noSuchVector() {
        VectorBench x = new VectorBench();
        x.input(8);
        for (int bad : Check.noVectors(x)) {
            Check.refused(x, "extend(" + bad + ", 1, false)", () -> x.extend(bad, 1, false), Check.ARGUMENT);
            Check.refused(x, "extend(" + bad + ", 0, true)", () -> x.extend(bad, 0, true), Check.ARGUMENT);
        }
    }

    private static void refused(int w, int by) {
        VectorBench x = new VectorBench();
        x.input(w);
        for (boolean signed : new boolean[] {false, true}) {
            Check.refused(x, "width " + w + ": extend(0, " + by + ", " + signed + ")",
                () -> x.extend(0, by, signed), Check.ARGUMENT);
        }
    }

    private static void lessThanNone() {
        for (int w = 1; w <= 64; w++) {
            refused(w, -1);
            refused(w, -w);
            refused(w, -64);
            refused(w, Integer.MIN_VALUE);
            refused(w, Integer.MIN_VALUE + w);
        }
    }

    /** Also where the width and by together wrap round. */
    private static void tooWide() {
        for (int w = 1; w <= 64; w++) {
            refused(w, 65 - w);
            refused(w, 66 - w);
            refused(w, 64);
            refused(w, Integer.MAX_VALUE);
            refused(w, Integer.MAX_VALUE - w);
            refused(w, Integer.MAX_VALUE - w + 1);
            VectorBench x = new VectorBench();
            x.input(w);
            int by = 64 - w;
            Check.due("extend to just 64", () -> x.extend(0, by, false), 1);
            Check.due("its width", () -> x.width(1), 64);
        }
    }

    private static void fullBench() {
        VectorBench x = Check.withRoom(10);
        Check.refused(x, "extend to 11 with room for 10", () -> x.extend(0, 3, true), Check.STATE);
        Check.refused(x, "extend to 11 with room for 10", () -> x.extend(0, 3, false), Check.STATE);
        Check.refused(x, "extend by -1 with room for 10", () -> x.extend(0, -1, true), Check.ARGUMENT);
        Check.refused(x, "extend by 57 with room for 10", () -> x.extend(0, 57, true), Check.ARGUMENT);
        Check.due("extend to 10 with room for 10", () -> x.extend(0, 2, true), x.vectors());
        Check.due("weight()", x::weight, 100000);
        Check.refused(x, "extend by none without room", () -> x.extend(0, 0, false), Check.STATE);
    }
}
