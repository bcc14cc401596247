/** Promise 10: so many bits more above, 0 or like the highest one. */
public final class Promise10ExtendTest {
    public static void main(String[] args) {
        for (int w = 1; w <= 64; w++) {
            for (int by = 0; w + by <= 64; by++) {
                values(w, by);
            }
        }
        wrongArguments();
        fullBench();
        Check.end();
    }

    private static void values(int w, int by) {
        VectorBench x = new VectorBench();
        x.input(w);
        Check.due("extend(0, " + by + ", false)", () -> x.extend(0, by, false), 1);
        Check.due("extend(0, " + by + ", true)", () -> x.extend(0, by, true), 2);
        Check.same("weight of extend", x.weight(), w + 2 * (w + by));
        Check.same("width of extend", x.width(1), w + by);
        Check.same("width of extend", x.width(2), w + by);
        for (long a : new long[] {0, 1, -1, 1L << (w - 1), ~(1L << (w - 1)), 0x0123456789ABCDEFL}) {
            x.set(0, a);
            Check.same("extend of " + a, x.value(1), Reference.told(w + by, Reference.number(w, a)));
            Check.same("extend with sign of " + a, x.value(2), Reference.told(w + by, Reference.signed(w, a)));
        }
    }

    private static void wrongArguments() {
        VectorBench x = new VectorBench();
        x.input(8);
        x.input(64);
        for (boolean signed : new boolean[] {false, true}) {
            for (int bad : new int[] {-1, -8, 57, 64, Integer.MAX_VALUE, Integer.MAX_VALUE - 7, Integer.MIN_VALUE}) {
                Check.refused(x, "extend(0, " + bad + ")", () -> x.extend(0, bad, signed), Check.ARGUMENT);
            }
            Check.refused(x, "extend of 64 by 1", () -> x.extend(1, 1, signed), Check.ARGUMENT);
            for (int bad : new int[] {-1, 2, 4000, Integer.MAX_VALUE, Integer.MIN_VALUE}) {
                Check.refused(x, "extend(" + bad + ", 1)", () -> x.extend(bad, 1, signed), Check.ARGUMENT);
            }
        }
    }

    private static void fullBench() {
        VectorBench x = Check.withRoom(10);
        Check.refused(x, "extend to 11 with room for 10", () -> x.extend(0, 3, true), Check.STATE);
        Check.refused(x, "extend by -1 with room for 10", () -> x.extend(0, -1, true), Check.ARGUMENT);
        Check.refused(x, "extend by 57 with room for 10", () -> x.extend(0, 57, true), Check.ARGUMENT);
        Check.due("extend to 10 with room for 10", () -> x.extend(0, 2, true), x.vectors());
        Check.due("weight()", x::weight, 100000);
    }
}
