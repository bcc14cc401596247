/** Promise 15: how many vectors there are. */
public final class Promise15VectorsTest {
    public static void main(String[] args) {
        Check.sentence("15: How many vectors there are.", Promise15VectorsTest::counts);
        Check.sentence("15: each making makes one", Promise15VectorsTest::eachMaking);
        Check.sentence("15: only what is made counts", Promise15VectorsTest::onlyWhatIsMade);
        Check.end();
    }

    private static void counts() {
        VectorBench x = new VectorBench();
        Check.due("vectors() of none", x::vectors, 0);
        for (int i = 0; i < 255; i++) {
            Check.due("input(1)", () -> x.input(1), i);
            Check.due("vectors()", x::vectors, i + 1);
        }
    }

    private static void eachMaking() {
        for (int w : new int[] {1, 8, 64}) {
            for (Making making : Making.all(w)) {
                VectorBench x = Making.bench(w);
                making.call.in(x);
                Check.due("vectors() with " + making.name + " of " + w, x::vectors, 3);
            }
        }
    }

    private static void onlyWhatIsMade() {
        VectorBench x = Making.bench(8);
        x.set(0, 1);
        x.value(0);
        x.width(0);
        x.weight();
        Check.due("vectors() behind calls that make none", x::vectors, 2);
        Check.due("input(65)", () -> x.input(65), Check.ARGUMENT);
        Check.due("vectors() behind an illegal argument", x::vectors, 2);
        Check.fill(x, 0);
        int all = x.vectors();
        Check.due("input(1)", () -> x.input(1), Check.STATE);
        Check.due("vectors() behind an illegal state", x::vectors, all);
    }
}
