/** Promise 1: a new object has no vectors. */
public final class Promise01NewObjectTest {
    public static void main(String[] args) {
        VectorBench x = new VectorBench();
        Check.due("vectors()", x::vectors, 0);
        Check.due("weight()", x::weight, 0);
        Check.due("value(0)", () -> x.value(0), Check.ARGUMENT);
        Check.due("width(0)", () -> x.width(0), Check.ARGUMENT);
        Check.due("set(0, 0)", () -> x.set(0, 0), Check.ARGUMENT);
        Check.due("one(0, 0)", () -> x.one(0, 0), Check.ARGUMENT);
        x.input(3);
        VectorBench y = new VectorBench();
        Check.due("vectors() of another", y::vectors, 0);
        Check.due("vectors() of the first", x::vectors, 1);
        Check.end();
    }
}
