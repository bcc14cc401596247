/** Promise 13: the width of each kind of vector. */
public final class Promise13WidthTest {
    public static void main(String[] args) {
        Check.sentence("13: The width of a vector.", Promise13WidthTest::eachMaking);
        Check.sentence("13: Illegal argument.", Promise13WidthTest::noSuchVector);
        Check.end();
    }

    private static void eachMaking() {
        for (int w = 1; w <= 64; w++) {
            for (Making making : Making.all(w)) {
                VectorBench x = Making.bench(w);
                making.call.in(x);
                Check.due("width of " + making.name + " of " + w, () -> x.width(2), making.width);
                x.set(0, -1);
                x.value(2);
                Check.due("width behind set and value", () -> x.width(2), making.width);
            }
        }
        VectorBench x = Making.bench(64);
        x.extract(0, 40, 11);
        x.concat(2, 1);
        x.extend(3, 3, true);
        Check.due("width of 40 .. 11", () -> x.width(2), 30);
        Check.due("width of that above 1", () -> x.width(3), 31);
        Check.due("width of that and 3", () -> x.width(4), 34);
    }

    private static void noSuchVector() {
        VectorBench x = new VectorBench();
        Check.due("width(0) of none", () -> x.width(0), Check.ARGUMENT);
        x.input(8);
        x.input(64);
        Check.due("width(1)", () -> x.width(1), 64);
        for (int bad : Check.noVectors(x)) {
            Check.refused(x, "width(" + bad + ")", () -> x.width(bad), Check.ARGUMENT);
        }
    }
}
