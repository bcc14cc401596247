/** Promise 15: how many vectors there are. */
public final class Promise15VectorsTest {
    public static void main(String[] args) {
        counts();
        manyMore();
        Check.end();
    }

    private static void counts() {
        VectorBench x = new VectorBench();
        for (int i = 0; i < 250; i++) {
            Check.due("input(1)", () -> x.input(1), i);
            Check.due("vectors()", x::vectors, i + 1);
        }
        Check.due("set(0, 1)", () -> x.set(0, 1), 0);
        Check.due("input(65)", () -> x.input(65), Check.ARGUMENT);
        Check.due("vectors() behind a call that throws", x::vectors, 250);
    }

    /** What stands behind the 512th call is free, but the bench keeps to its 4000 all the same. */
    private static void manyMore() {
        VectorBench x = new VectorBench();
        for (int i = 0; i < 4000; i++) {
            x.constant(1, 1);
        }
        Check.due("vectors()", x::vectors, 4000);
        Check.refused(x, "the vector behind 4000", () -> x.constant(1, 1), Check.STATE);
        Check.refused(x, "a wrong one behind 4000", () -> x.constant(0, 1), Check.ARGUMENT);
    }
}
