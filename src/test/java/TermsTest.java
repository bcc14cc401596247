/** 'Terms', which hold for all promises: a test for each sentence of it that names a boundary. */
public final class TermsTest {
    public static void main(String[] args) {
        Check.sentence("An object is used for at most 512 calls after it has been made", TermsTest::callsTo512);
        Check.sentence("VECTORS are 0, 1, .., in the order in which they were made", TermsTest::inOrder);
        Check.sentence("VECTORS are at most 4000", TermsTest::mostVectors);
        Check.sentence("each has a WIDTH w, 1 .. 64", TermsTest::widths);
        Check.sentence("as a NUMBER without a sign it is 0 .. 2^w - 1", TermsTest::withoutSign);
        Check.sentence("as one with a sign it is 2^w less if its highest bit is 1", TermsTest::withSign);
        Check.sentence("Values are told as longs whose upper 64 - w bits are 0", TermsTest::toldUpperBits);
        Check.sentence("Values come as longs; the upper bits of those that come count for nothing",
            TermsTest::upperBitsThatCome);
        Check.sentence("All results are taken modulo 2^w", TermsTest::modulo);
        Check.sentence("WEIGHTS, w being the width of a: ..", TermsTest::weights);
        Check.sentence("WEIGHTS: IF 4 w, comparisons 10 w, w being the width of a", TermsTest::widthOfA);
        Check.sentence("All vectors together weigh at most 100000", TermsTest::mostWeight);
        Check.end();
    }

    /** The 512th call answers as the first does, be it one that makes, one that sets or one that throws. */
    private static void callsTo512() {
        VectorBench makes = new VectorBench();
        for (int i = 0; i < 512; i++) {
            Check.due("call " + i, () -> makes.constant(64, -1), i);
        }
        VectorBench sets = new VectorBench();
        sets.input(64);
        for (int i = 0; i < 511; i++) {
            int value = i + 1;
            Check.due("set as call " + value, () -> sets.set(0, value), i);
        }
        VectorBench throwing = new VectorBench();
        for (int i = 0; i < 511; i++) {
            Check.due("call " + i, () -> throwing.input(65), Check.ARGUMENT);
        }
        Check.due("the 512th call", () -> throwing.input(64), 0);
    }

    /** Whatever makes it, a vector has the number of those before it; what is refused uses none up. */
    private static void inOrder() {
        for (int w = 1; w <= 3; w++) {
            VectorBench x = Making.bench(w);
            int next = 2;
            for (Making making : Making.all(w)) {
                Check.due(making.name, () -> making.call.in(x), next);
                Check.due("a refused call behind it", () -> x.extract(0, 64, 0), Check.ARGUMENT);
                next++;
                Check.due("vectors()", x::vectors, next);
            }
        }
    }

    /** It takes more than 512 calls, behind which all is free; the bench keeps to its 4000 all the same. */
    private static void mostVectors() {
        VectorBench x = new VectorBench();
        x.input(1);
        x.input(1);
        for (int i = 2; i < 4000; i++) {
            Check.due("constant as vector " + i, () -> x.constant(1, 1), i);
        }
        Check.due("vectors()", x::vectors, 4000);
        Check.due("value(3999)", () -> x.value(3999), 1);
        for (Making making : Making.all(1)) {
            Check.due(making.name + " behind 4000", () -> making.call.in(x), Check.STATE);
        }
        Check.due("input(0) behind 4000", () -> x.input(0), Check.ARGUMENT);
        Check.due("value(4000)", () -> x.value(4000), Check.ARGUMENT);
        Check.due("set(0, 1) behind 4000", () -> x.set(0, 1), 0);
        Check.due("vectors()", x::vectors, 4000);
        Check.due("weight()", x::weight, 4000);
    }

    /** The least and the greatest width come out of every call that can name one, and none beyond them. */
    private static void widths() {
        for (int w = 1; w <= 64; w++) {
            for (Making making : Making.all(w)) {
                VectorBench x = Making.bench(w);
                int v = making.call.in(x);
                Check.due("width of " + making.name + " at " + w, () -> x.width(v), making.width);
            }
        }
        VectorBench x = new VectorBench();
        x.input(64);
        x.input(1);
        for (int bad : new int[] {0, 65}) {
            Check.refused(x, "input(" + bad + ")", () -> x.input(bad), Check.ARGUMENT);
            Check.refused(x, "constant(" + bad + ", 0)", () -> x.constant(bad, 0), Check.ARGUMENT);
        }
        Check.refused(x, "concat to 65", () -> x.concat(0, 1), Check.ARGUMENT);
        Check.refused(x, "extract of 65", () -> x.extract(0, 64, 0), Check.ARGUMENT);
        Check.refused(x, "extract of none", () -> x.extract(0, 0, 1), Check.ARGUMENT);
        Check.refused(x, "extend to 65", () -> x.extend(0, 1, false), Check.ARGUMENT);
        Check.refused(x, "extend to none", () -> x.extend(1, -1, false), Check.ARGUMENT);
    }

    /** 2^w - 1 is the greatest, and stands above the one whose highest bit alone is 1. */
    private static void withoutSign() {
        for (int w = 2; w <= 64; w++) {
            VectorBench x = new VectorBench();
            x.constant(w, -1);
            x.constant(w, 1L << (w - 1));
            x.constant(w, 0);
            Check.due("greatest value of " + w, () -> x.value(0), -1L >>> (64 - w));
            x.compare(1, 1, 0);
            x.compare(1, 2, 1);
            Check.due("2^(w-1) below 2^w - 1, width " + w, () -> x.value(3), 1);
            Check.due("0 below 2^(w-1), width " + w, () -> x.value(4), 1);
        }
    }

    /** With a sign the one whose highest bit alone is 1 is the least, -1 is just below 0. */
    private static void withSign() {
        for (int w = 2; w <= 64; w++) {
            VectorBench x = new VectorBench();
            x.constant(w, 1L << (w - 1));
            x.constant(w, -1);
            x.constant(w, 0);
            x.constant(w, (1L << (w - 1)) - 1);
            for (int v = 0; v < 3; v++) {
                int less = x.compare(3, v, v + 1);
                Check.due("value " + v + " below the next, width " + w, () -> x.value(less), 1);
            }
        }
        VectorBench x = new VectorBench();
        x.constant(1, 1);
        x.constant(1, 0);
        x.compare(3, 0, 1);
        Check.due("1 of width 1 is -1 with a sign", () -> x.value(2), 1);
    }

    /** All bits of what is reckoned that could stick out are driven to 1, and none does. */
    private static void toldUpperBits() {
        for (int w = 1; w < 64; w++) {
            for (long value : new long[] {0, -1, 1, 1L << (w - 1)}) {
                VectorBench x = Making.bench(w);
                int before = x.vectors();
                for (Making making : Making.all(w)) {
                    int v = making.weight <= Check.MOST_WEIGHT - x.weight() ? making.call.in(x) : before;
                    x.set(0, value);
                    long out = x.width(v) == 64 ? 0 : x.value(v) >>> x.width(v);
                    Check.same("upper bits of " + making.name + " at " + w + " of " + value, out, 0L);
                    before = v;
                }
                Check.due("set(0, -1) at " + w, () -> x.set(0, -1), value & (1L << w) - 1);
                Check.due("set(0, 0) at " + w, () -> x.set(0, 0), (1L << w) - 1);
            }
        }
    }

    private static void upperBitsThatCome() {
        for (int w = 1; w < 64; w++) {
            long low = 1;
            long[] withUpper = {low | 1L << w, low | -1L << w, low | Long.MIN_VALUE};
            for (long value : withUpper) {
                VectorBench x = new VectorBench();
                x.input(w);
                x.set(0, value);
                x.constant(w, value);
                x.constant(w, low);
                Check.due("value of an input set to " + value + " at " + w, () -> x.value(0), low);
                Check.due("value of a constant " + value + " at " + w, () -> x.value(1), low);
                x.compare(0, 0, 2);
                x.compare(0, 1, 2);
                Check.due("input is " + low, () -> x.value(3), 1);
                Check.due("constant is " + low, () -> x.value(4), 1);
                Check.due("set(0, " + value + ") again", () -> x.set(0, value), low);
                Check.due("set(0, 0)", () -> x.set(0, 0), low);
            }
        }
    }

    /** Each reckoning that can go out of 0 .. 2^w - 1 wraps round, above and below. */
    private static void modulo() {
        for (int w = 2; w <= 64; w++) {
            long most = -1L >>> (64 - w);
            long top = 1L << (w - 1);
            wraps(w, 3, most, 1, 0);
            wraps(w, 3, most, most, most - 1);
            wraps(w, 3, top, top, 0);
            wraps(w, 4, 0, 1, most);
            wraps(w, 4, 0, most, 1);
            wraps(w, 5, most, most, 1);
            wraps(w, 5, top, 2, 0);
            wraps(w, 5, most, 2, most - 1);
            wraps(w, 8, top, most, top);
            wraps(w, 9, top, most, 0);
            wraps(w, 10, most, 1, most - 1);
            VectorBench x = new VectorBench();
            x.constant(w, 1);
            x.constant(w, top);
            x.constant(w, 0);
            x.one(1, 0);
            x.one(1, 1);
            x.one(1, 2);
            Check.due("NEG of 1 at " + w, () -> x.value(3), most);
            Check.due("NEG of the least at " + w, () -> x.value(4), top);
            Check.due("NEG of 0 at " + w, () -> x.value(5), 0);
        }
    }

    private static void wraps(int w, int kind, long a, long b, long want) {
        VectorBench x = new VectorBench();
        x.constant(w, a);
        x.constant(w, b);
        x.two(kind, 0, 1);
        Check.due("width " + w + ": two " + kind + " of " + a + " and " + b, () -> x.value(2), want);
    }

    private static void weights() {
        for (int w = 1; w <= 64; w++) {
            for (Making making : Making.all(w)) {
                VectorBench x = Making.bench(w);
                making.call.in(x);
                Check.due("weight() with " + making.name + " of " + w, x::weight, w + 1 + making.weight);
            }
        }
    }

    /** Neither the width of what chooses nor that of what comes out, both 1, is the w of these. */
    private static void widthOfA() {
        VectorBench x = new VectorBench();
        x.input(1);
        x.input(20);
        x.choose(0, 1, 1);
        Check.due("weight() with choose", x::weight, 21 + 80);
        x.compare(0, 1, 1);
        Check.due("weight() with compare", x::weight, 101 + 200);
    }

    /** Each making with just enough room, which leaves none, and with 1 too little, which changes nothing. */
    private static void mostWeight() {
        for (int w : new int[] {1, 2, 7, 32, 63, 64}) {
            for (Making making : Making.all(w)) {
                String call = making.name + " of " + w;
                VectorBench enough = Making.bench(w);
                Check.fill(enough, making.weight);
                int next = enough.vectors();
                Check.due(call + " with just enough room", () -> making.call.in(enough), next);
                Check.due("weight() behind " + call, enough::weight, Check.MOST_WEIGHT);
                Check.refused(enough, "input(1) behind " + call, () -> enough.input(1), Check.STATE);
                VectorBench tight = Making.bench(w);
                Check.fill(tight, making.weight - 1);
                Check.refused(tight, call + " with 1 too little room", () -> making.call.in(tight), Check.STATE);
            }
        }
    }
}
