/** Promise 1: a new object has no vectors. */
public final class Promise01NewObjectTest {
    public static void main(String[] args) {
        Check.sentence("1: No vectors.", Promise01NewObjectTest::noVectors);
        Check.sentence("1: each new object has vectors of its own", Promise01NewObjectTest::ownVectors);
        Check.end();
    }

    private static void noVectors() {
        VectorBench x = new VectorBench();
        Check.due("vectors()", x::vectors, 0);
        Check.due("weight()", x::weight, 0);
        Check.due("value(-1)", () -> x.value(-1), Check.ARGUMENT);
        Check.due("value(0)", () -> x.value(0), Check.ARGUMENT);
        Check.due("width(0)", () -> x.width(0), Check.ARGUMENT);
        Check.due("set(0, 0)", () -> x.set(0, 0), Check.ARGUMENT);
        Check.due("one(0, 0)", () -> x.one(0, 0), Check.ARGUMENT);
        Check.due("two(0, 0, 0)", () -> x.two(0, 0, 0), Check.ARGUMENT);
        Check.due("compare(0, 0, 0)", () -> x.compare(0, 0, 0), Check.ARGUMENT);
        Check.due("choose(0, 0, 0)", () -> x.choose(0, 0, 0), Check.ARGUMENT);
        Check.due("concat(0, 0)", () -> x.concat(0, 0), Check.ARGUMENT);
        Check.due("extract(0, 0, 0)", () -> x.extract(0, 0, 0), Check.ARGUMENT);
        Check.due("extend(0, 0, false)", () -> x.extend(0, 0, false), Check.ARGUMENT);
        Check.due("vectors() behind all these", x::vectors, 0);
        Check.due("weight() behind all these", x::weight, 0);
        Check.due("the first vector", () -> x.input(1), 0);
    }

    private static void ownVectors() {
        VectorBench x = new VectorBench();
        x.input(3);
        VectorBench y = new VectorBench();
        Check.due("vectors() of another", y::vectors, 0);
        Check.due("weight() of another", y::weight, 0);
        y.input(4);
        y.set(0, 5);
        y.input(7);
        Check.due("value(0) of the first", () -> x.value(0), 0);
        Check.due("width(0) of the first", () -> x.width(0), 3);
        Check.due("weight() of the first", x::weight, 3);
        Check.due("vectors() of the first", x::vectors, 1);
        Check.due("weight() of the other", y::weight, 11);
    }
}
