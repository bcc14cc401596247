/** Promise 13: the width of each kind of vector. */
public final class Promise13WidthTest {
    public static void main(String[] args) {
        VectorBench x = new VectorBench();
        x.input(8);
        x.constant(64, 1);
        x.one(1, 0);
        x.two(5, 0, 0);
        x.compare(2, 0, 0);
        x.choose(4, 1, 1);
        x.concat(0, 4);
        x.extract(1, 40, 11);
        x.extend(0, 3, true);
        int[] widths = {8, 64, 8, 8, 1, 64, 9, 30, 11};
        for (int v = 0; v < widths.length; v++) {
            int each = v;
            Check.due("width(" + v + ")", () -> x.width(each), widths[v]);
        }
        for (int bad : new int[] {-1, 9, 10, 4000, Integer.MAX_VALUE, Integer.MIN_VALUE}) {
            Check.refused(x, "width(" + bad + ")", () -> x.width(bad), Check.ARGUMENT);
        }
        Check.end();
    }
}
