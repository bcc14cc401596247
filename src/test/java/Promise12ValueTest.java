/** Promise 12: the value of a vector. */
public final class Promise12ValueTest {
    public static void main(String[] args) {
        Check.sentence("12: The value of a vector.", Promise12ValueTest::eachMaking);
        Check.sentence("12: asking for a value changes nothing", Promise12ValueTest::askedAgain);
        Check.sentence("12: Illegal argument.", Promise12ValueTest::noSuchVector);
        Check.end();
    }

    /** One of each making, with answers reckoned by hand for a = 0xB3 and c = 1. */
    private static void eachMaking() {
        long[] wants = {0, 5, 0x4C, 0x4D,
            0xB3, 0xB3, 0, 0x66, 0, 0x29, 1, 0, 1, 0, 0, 0, 0xFF,
            1, 0, 1, 0, 1,
            0xB3, 0x167, 0xB3, 1, 0xB3, 0xFFFFFFFFFFFFFFB3L};
        VectorBench x = Making.bench(8);
        int v = 2;
        for (Making making : Making.all(8)) {
            making.call.in(x);
        }
        Check.due("vectors()", x::vectors, 2 + wants.length);
        x.set(0, 0xB3);
        x.set(1, 1);
        Check.due("value(0)", () -> x.value(0), 0xB3);
        Check.due("value(1)", () -> x.value(1), 1);
        for (Making making : Making.all(8)) {
            int each = v;
            Check.due("value of " + making.name, () -> x.value(each), wants[v - 2]);
            v++;
        }
    }

    /** In any order, the last ones first too, and again. */
    private static void askedAgain() {
        VectorBench x = Making.bench(8);
        for (Making making : Making.all(8)) {
            making.call.in(x);
        }
        x.set(0, 0x2F);
        int count = x.vectors();
        long[] first = new long[count];
        for (int v = count - 1; v >= 0; v--) {
            first[v] = x.value(v);
        }
        int weight = x.weight();
        for (int v = 0; v < count; v++) {
            int each = v;
            Check.due("value(" + v + ") again", () -> x.value(each), first[v]);
        }
        Check.due("vectors()", x::vectors, count);
        Check.due("weight()", x::weight, weight);
        Check.due("set(0, 0)", () -> x.set(0, 0), 0x2F);
    }

    private static void noSuchVector() {
        VectorBench x = new VectorBench();
        Check.due("value(0) of none", () -> x.value(0), Check.ARGUMENT);
        x.constant(4, -1);
        Check.due("value(0)", () -> x.value(0), 15);
        for (int bad : Check.noVectors(x)) {
            Check.refused(x, "value(" + bad + ")", () -> x.value(bad), Check.ARGUMENT);
        }
    }
}
