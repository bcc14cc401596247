/** Promise 5: what is reckoned of two vectors of the same width. */
public final class Promise05TwoTest {
    public static void main(String[] args) {
        Check.sentence("5: A new vector of the width of a and b, which is the same", Promise05TwoTest::width);
        Check.sentence("5: every kind at every width", Promise05TwoTest::everyKind);
        Check.sentence("5: a and b may be one vector", Promise05TwoTest::sameVectorTwice);
        kinds();
        refusals();
        Check.end();
    }

    private static void kinds() {
        Check.sentence("5: kind 0: AND; 1: OR; 2: XOR", Promise05TwoTest::bitByBit);
        Check.sentence("5: 3: ADD", Promise05TwoTest::add);
        Check.sentence("5: 4: SUB, a less b", Promise05TwoTest::sub);
        Check.sentence("5: 5: MUL", Promise05TwoTest::mul);
        Check.sentence("5: 6: a divided by b, cut", Promise05TwoTest::divided);
        Check.sentence("5: 6: all bits 1 if b is 0", Promise05TwoTest::dividedByNothing);
        Check.sentence("5: 7: what is left of that", Promise05TwoTest::left);
        Check.sentence("5: 7: a if b is 0", Promise05TwoTest::leftOfNothing);
        Check.sentence("5: with a sign: 8: a divided by b, cut towards 0", Promise05TwoTest::signDivided);
        Check.sentence("5: 8: if b is 0: -1, or 1 if a is below 0", Promise05TwoTest::signDividedByNothing);
        Check.sentence("5: 9: what is left of that, with the sign of a", Promise05TwoTest::signLeft);
        Check.sentence("5: 9: a if b is 0", Promise05TwoTest::signLeftOfNothing);
        Check.sentence("5: shifts by b as a number without a sign", Promise05TwoTest::withoutSign);
        Check.sentence("5: by w or more all bits go", Promise05TwoTest::allBitsGo);
        Check.sentence("5: 10: to the left", Promise05TwoTest::toTheLeft);
        Check.sentence("5: 11: to the right, 0 coming in", Promise05TwoTest::toTheRight);
        Check.sentence("5: 12: to the right, a's highest bit coming in", Promise05TwoTest::toTheRightWithSign);
    }

    private static void refusals() {
        Check.sentence("5: Illegal argument: no such vector, or widths don't fit", Promise05TwoTest::noSuchVectors);
        Check.sentence("5: Illegal argument: also if kind is none of these", Promise05TwoTest::noSuchKind);
        Check.sentence("5: illegal state.", Promise05TwoTest::fullBench);
    }

    private static long ones(int w) {
        return -1L >>> (64 - w);
    }

    private static long top(int w) {
        return 1L << (w - 1);
    }

    /** Of inputs that are set behind the making, and of constants. */
    private static void gives(int kind, int w, long a, long b, long want) {
        VectorBench x = new VectorBench();
        x.input(w);
        x.input(w);
        x.two(kind, 0, 1);
        x.set(0, a);
        x.set(1, b);
        String call = "width " + w + ": two " + kind + " of " + a + " and " + b;
        Check.same(call + ", inputs", x.value(2), want & ones(w));
        VectorBench y = new VectorBench();
        y.constant(w, a);
        y.constant(w, b);
        y.two(kind, 0, 1);
        Check.same(call + ", constants", y.value(2), want & ones(w));
    }

    private static void width() {
        for (int w = 1; w <= 64; w++) {
            for (int kind = 0; kind < Reference.TWOS; kind++) {
                bench(kind, w);
            }
        }
    }

    private static VectorBench bench(int kind, int w) {
        VectorBench x = new VectorBench();
        x.input(w);
        x.input(w);
        Check.due("two(" + kind + ", 0, 1)", () -> x.two(kind, 0, 1), 2);
        Check.same("weight of two " + kind + " at " + w, x.weight(), 2 * w + Reference.weightOfTwo(kind, w));
        Check.same("width of two " + kind, x.width(2), w);
        return x;
    }

    private static void everyKind() {
        for (int kind = 0; kind < Reference.TWOS; kind++) {
            for (int w = 1; w <= 5; w++) {
                allValues(kind, w);
            }
            for (int w = 6; w <= 64; w++) {
                someValues(kind, w);
            }
        }
    }

    private static void one(VectorBench x, int kind, int w, long a, long b) {
        x.set(0, a);
        x.set(1, b);
        Check.same("width " + w + ": two " + kind + " of " + a + " and " + b,
            x.value(2), Reference.two(kind, w, a, b));
    }

    private static void allValues(int kind, int w) {
        VectorBench x = bench(kind, w);
        for (long a = 0; a < 1L << w; a++) {
            for (long b = 0; b < 1L << w; b++) {
                one(x, kind, w, a, b);
            }
        }
    }

    private static void someValues(int kind, int w) {
        VectorBench x = bench(kind, w);
        for (long a : Reference.edges(w)) {
            for (long b : Reference.edges(w)) {
                one(x, kind, w, a, b);
            }
        }
        Reference.Dice dice = new Reference.Dice(100L * kind + w);
        for (int i = 0; i < 30; i++) {
            one(x, kind, w, dice.next(), dice.next() >>> dice.below(64));
        }
    }

    private static void sameVectorTwice() {
        for (int kind = 0; kind < Reference.TWOS; kind++) {
            VectorBench x = new VectorBench();
            x.input(9);
            x.two(kind, 0, 0);
            for (long a = 0; a < 512; a++) {
                x.set(0, a);
                Check.same("two " + kind + " of " + a + " with itself", x.value(1), Reference.two(kind, 9, a, a));
            }
        }
    }

    private static void bitByBit() {
        for (int w = 4; w <= 64; w++) {
            gives(0, w, 12, 10, 8);
            gives(1, w, 12, 10, 14);
            gives(2, w, 12, 10, 6);
            gives(0, w, -1, top(w), top(w));
            gives(1, w, 0, top(w), top(w));
            gives(2, w, -1, top(w), top(w) - 1);
            gives(2, w, -1, -1, 0);
        }
    }

    private static void add() {
        for (int w = 1; w <= 64; w++) {
            gives(3, w, 0, 0, 0);
            gives(3, w, 0, 1, 1);
            gives(3, w, ones(w), 1, 0);
            gives(3, w, 1, ones(w), 0);
            gives(3, w, ones(w), ones(w), ones(w) - 1);
            gives(3, w, top(w), top(w), 0);
            gives(3, w, top(w) - 1, 1, top(w));
        }
    }

    private static void sub() {
        for (int w = 1; w <= 64; w++) {
            gives(4, w, 0, 0, 0);
            gives(4, w, 0, 1, ones(w));
            gives(4, w, 1, 0, 1);
            gives(4, w, ones(w), ones(w), 0);
            gives(4, w, 0, ones(w), 1);
            gives(4, w, 0, top(w), top(w));
            gives(4, w, top(w), 1, top(w) - 1);
        }
        gives(4, 8, 9, 4, 5);
        gives(4, 8, 4, 9, 251);
    }

    private static void mul() {
        for (int w = 1; w <= 64; w++) {
            gives(5, w, 0, ones(w), 0);
            gives(5, w, ones(w), 0, 0);
            gives(5, w, 1, ones(w), ones(w));
            gives(5, w, ones(w), ones(w), 1);
            gives(5, w, top(w), 1, top(w));
            gives(5, w, top(w), ones(w), top(w));
        }
        for (int w = 2; w <= 64; w++) {
            gives(5, w, top(w), 2, 0);
            gives(5, w, top(w), top(w), 0);
        }
        gives(5, 8, 16, 17, 16);
        gives(5, 8, 12, 13, 156);
    }

    private static void divided() {
        for (int w = 1; w <= 64; w++) {
            gives(6, w, 0, 1, 0);
            gives(6, w, ones(w), 1, ones(w));
            gives(6, w, ones(w), ones(w), 1);
            gives(6, w, ones(w) - 1, ones(w), 0);
            gives(6, w, ones(w), top(w), 1);
            gives(6, w, top(w) - 1, top(w), 0);
        }
        gives(6, 8, 200, 7, 28);
        gives(6, 8, 199, 200, 0);
        gives(6, 8, 255, 2, 127);
        gives(6, 64, -1, 10, 1844674407370955161L);
    }

    private static void dividedByNothing() {
        for (int w = 1; w <= 64; w++) {
            for (long a : Reference.edges(w)) {
                gives(6, w, a, 0, -1);
            }
        }
        gives(6, 8, 0, 0, 255);
    }

    private static void left() {
        for (int w = 1; w <= 64; w++) {
            gives(7, w, ones(w), 1, 0);
            gives(7, w, ones(w), ones(w), 0);
            gives(7, w, ones(w) - 1, ones(w), ones(w) - 1);
            gives(7, w, ones(w), top(w), top(w) - 1);
            gives(7, w, top(w) - 1, top(w), top(w) - 1);
        }
        gives(7, 8, 200, 7, 4);
        gives(7, 8, 199, 200, 199);
        gives(7, 8, 255, 2, 1);
        gives(7, 64, -1, 10, 5);
    }

    private static void leftOfNothing() {
        for (int w = 1; w <= 64; w++) {
            for (long a : Reference.edges(w)) {
                gives(7, w, a, 0, a);
            }
        }
        gives(7, 8, 200, 0, 200);
        gives(7, 8, 0, 0, 0);
    }

    private static void signDivided() {
        for (int w = 1; w <= 64; w++) {
            gives(8, w, 0, -1, 0);
            gives(8, w, top(w), 1, top(w));
            gives(8, w, top(w), -1, top(w));
            gives(8, w, top(w), top(w), 1);
            gives(8, w, -1, -1, 1);
        }
        for (int w = 4; w <= 64; w++) {
            gives(8, w, 7, 2, 3);
            gives(8, w, -7, 2, -3);
            gives(8, w, 7, -2, -3);
            gives(8, w, -7, -2, 3);
            gives(8, w, 1, 2, 0);
            gives(8, w, -1, 2, 0);
            gives(8, w, 1, -2, 0);
            gives(8, w, -1, -2, 0);
            gives(8, w, top(w) - 1, -1, -(top(w) - 1));
            gives(8, w, top(w) - 1, top(w), 0);
            gives(8, w, top(w), top(w) - 1, -1);
        }
    }

    private static void signDividedByNothing() {
        for (int w = 2; w <= 64; w++) {
            gives(8, w, 0, 0, -1);
            gives(8, w, top(w) >>> 1, 0, -1);
            gives(8, w, top(w) - 1, 0, -1);
            gives(8, w, -1, 0, 1);
            gives(8, w, top(w), 0, 1);
        }
        gives(8, 1, 0, 0, 1);
        gives(8, 1, 1, 0, 1);
    }

    private static void signLeft() {
        for (int w = 1; w <= 64; w++) {
            gives(9, w, top(w), 1, 0);
            gives(9, w, top(w), -1, 0);
            gives(9, w, top(w), top(w), 0);
            gives(9, w, -1, -1, 0);
        }
        for (int w = 4; w <= 64; w++) {
            gives(9, w, 7, 2, 1);
            gives(9, w, -7, 2, -1);
            gives(9, w, 7, -2, 1);
            gives(9, w, -7, -2, -1);
            gives(9, w, 6, -2, 0);
            gives(9, w, -6, 2, 0);
            gives(9, w, top(w) - 1, top(w), top(w) - 1);
            gives(9, w, top(w), top(w) - 1, -1);
            gives(9, w, -1, top(w), -1);
        }
    }

    private static void signLeftOfNothing() {
        for (int w = 1; w <= 64; w++) {
            gives(9, w, 0, 0, 0);
            gives(9, w, 1, 0, 1);
            gives(9, w, top(w) - 1, 0, top(w) - 1);
            gives(9, w, -1, 0, -1);
            gives(9, w, top(w), 0, top(w));
        }
    }

    /** What would be less than 0 with a sign is a great number here, by which all bits go. */
    private static void withoutSign() {
        for (int w = 3; w <= 64; w++) {
            for (long b : new long[] {-1, -2, top(w), top(w) + 1}) {
                gives(10, w, -1, b, 0);
                gives(11, w, -1, b, 0);
                gives(12, w, top(w), b, -1);
                gives(12, w, top(w) - 1, b, 0);
            }
        }
        gives(10, 2, 3, 2, 0);
        gives(10, 2, 3, 3, 0);
        gives(11, 2, 3, 3, 0);
    }

    private static void allBitsGo() {
        for (int w = 1; w <= 64; w++) {
            goneBy(w, w);
            goneBy(w, w + 1);
            goneBy(w, 2L * w);
            for (int i = 0; i < w; i++) {
                goneBy(w, 1L << i);
            }
            goneBy(w, -1);
        }
    }

    /** Where a number is less than w in its w bits, not all go: then there is nothing to see here. */
    private static void goneBy(int w, long b) {
        if (Long.compareUnsigned(b & ones(w), w) >= 0) {
            gives(10, w, -1, b, 0);
            gives(11, w, -1, b, 0);
            gives(12, w, -1, b, -1);
            gives(12, w, top(w), b, -1);
            gives(12, w, top(w) - 1, b, 0);
        }
    }

    private static void toTheLeft() {
        for (int w = 1; w <= 64; w++) {
            for (int by = 0; by < w; by++) {
                gives(10, w, -1, by, -1L << by);
                gives(10, w, 1, by, 1L << by);
            }
        }
        gives(10, 8, 0x53, 1, 0xA6);
        gives(10, 8, 0x53, 2, 0x4C);
    }

    private static void toTheRight() {
        for (int w = 1; w <= 64; w++) {
            for (int by = 0; by < w; by++) {
                gives(11, w, -1, by, ones(w) >>> by);
                gives(11, w, top(w), by, top(w) >>> by);
            }
        }
        gives(11, 8, 0xD3, 1, 0x69);
        gives(11, 8, 0xD3, 7, 1);
    }

    private static void toTheRightWithSign() {
        for (int w = 1; w <= 64; w++) {
            for (int by = 0; by < w; by++) {
                gives(12, w, -1, by, -1);
                gives(12, w, top(w), by, -1L << (w - 1 - by));
                gives(12, w, top(w) - 1, by, top(w) - 1 >>> by);
            }
        }
        gives(12, 8, 0xD3, 1, 0xE9);
        gives(12, 8, 0x53, 1, 0x29);
    }

    private static VectorBench small() {
        VectorBench x = new VectorBench();
        x.input(5);
        x.input(5);
        x.input(6);
        return x;
    }

    private static void noSuchVectors() {
        VectorBench x = small();
        for (int kind = 0; kind < Reference.TWOS; kind++) {
            int k = kind;
            for (int bad : Check.noVectors(x)) {
                Check.refused(x, "two(" + k + ", 0, " + bad + ")", () -> x.two(k, 0, bad), Check.ARGUMENT);
                Check.refused(x, "two(" + k + ", " + bad + ", 0)", () -> x.two(k, bad, 0), Check.ARGUMENT);
                Check.refused(x, "two(" + k + ", twice " + bad + ")", () -> x.two(k, bad, bad), Check.ARGUMENT);
            }
            Check.refused(x, "two(" + k + ", 0, 2)", () -> x.two(k, 0, 2), Check.ARGUMENT);
            Check.refused(x, "two(" + k + ", 2, 0)", () -> x.two(k, 2, 0), Check.ARGUMENT);
        }
    }

    private static void noSuchKind() {
        VectorBench x = small();
        for (int bad : new int[] {-2, -1, 13, 14, 100, Integer.MAX_VALUE, Integer.MIN_VALUE}) {
            Check.refused(x, "two(" + bad + ", 0, 1)", () -> x.two(bad, 0, 1), Check.ARGUMENT);
        }
    }

    private static void fullBench() {
        for (int kind = 0; kind < Reference.TWOS; kind++) {
            int k = kind;
            int weight = Reference.weightOfTwo(kind, 8);
            VectorBench tight = Check.withRoom(weight - 1);
            Check.refused(tight, "two with too little room", () -> tight.two(k, 0, 0), Check.STATE);
            Check.refused(tight, "two of kind 13 with too little room", () -> tight.two(13, 0, 0), Check.ARGUMENT);
            Check.refused(tight, "two of other widths with too little room",
                () -> tight.two(k, 0, 1), Check.ARGUMENT);
            VectorBench enough = Check.withRoom(weight);
            Check.due("two with just enough room", () -> enough.two(k, 0, 0), enough.vectors());
            Check.due("weight()", enough::weight, 100000);
        }
    }
}
