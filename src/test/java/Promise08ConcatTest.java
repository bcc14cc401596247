/** Promise 8: the bits of a above those of b. */
public final class Promise08ConcatTest {
    public static void main(String[] args) {
        values();
        wrongArguments();
        fullBench();
        Check.end();
    }

    private static void values() {
        for (int upper = 1; upper < 64; upper++) {
            for (int lower = 1; upper + lower <= 64; lower++) {
                VectorBench x = new VectorBench();
                x.input(upper);
                x.input(lower);
                Check.due("concat(0, 1)", () -> x.concat(0, 1), 2);
                Check.same("weight of concat", x.weight(), 2 * (upper + lower));
                Check.same("width of concat", x.width(2), upper + lower);
                for (long a : new long[] {0, 1, -1, 0x123456789ABCDEFL}) {
                    for (long b : new long[] {0, 1, -1, 0x3C3C3C3C3C3C3C3CL}) {
                        x.set(0, a);
                        x.set(1, b);
                        Check.same("concat of " + a + " and " + b, x.value(2), x.value(0) << lower | x.value(1));
                    }
                }
            }
        }
        VectorBench x = new VectorBench();
        x.constant(4, 9);
        x.concat(0, 0);
        Check.same("concat of 9 with itself", x.value(1), 0x99L);
        Check.refused(x, "set of a concat", () -> x.set(1, 1), Check.ARGUMENT);
    }

    private static void wrongArguments() {
        VectorBench x = new VectorBench();
        x.input(32);
        x.input(33);
        x.input(64);
        x.input(1);
        Check.refused(x, "concat of 32 and 33", () -> x.concat(0, 1), Check.ARGUMENT);
        Check.refused(x, "concat of 33 and 32", () -> x.concat(1, 0), Check.ARGUMENT);
        Check.refused(x, "concat of 64 and 1", () -> x.concat(2, 3), Check.ARGUMENT);
        Check.refused(x, "concat of 1 and 64", () -> x.concat(3, 2), Check.ARGUMENT);
        for (int bad : new int[] {-1, 4, 4000, Integer.MAX_VALUE, Integer.MIN_VALUE}) {
            Check.refused(x, "concat(0, " + bad + ")", () -> x.concat(0, bad), Check.ARGUMENT);
            Check.refused(x, "concat(" + bad + ", 0)", () -> x.concat(bad, 0), Check.ARGUMENT);
        }
        Check.due("concat of 32 and 32", () -> x.concat(0, 0), 4);
    }

    private static void fullBench() {
        VectorBench tight = Check.withRoom(15);
        Check.refused(tight, "concat with too little room", () -> tight.concat(0, 0), Check.STATE);
        Check.refused(tight, "too wide a concat with too little room", () -> tight.concat(0, 1), Check.ARGUMENT);
        VectorBench enough = Check.withRoom(16);
        Check.due("concat with just enough room", () -> enough.concat(0, 0), enough.vectors());
        Check.due("weight()", enough::weight, 100000);
    }
}
