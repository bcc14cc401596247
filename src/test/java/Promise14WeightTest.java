/** Promise 14: what all vectors weigh, by the table of weights written out for the widths 3 and 64. */
public final class Promise14WeightTest {
    private static final int[] TWO_OF_3 = {12, 12, 12, 30, 30, 126, 240, 240, 384, 384, 90, 90, 90};
    private static final int[] TWO_OF_64 = {256, 256, 256, 640, 640, 57344, 67584, 67584, 70656, 70656,
        1920, 1920, 1920};

    private interface Calls {
        int in(VectorBench x);
    }

    public static void main(String[] args) {
        Check.sentence("14: what each making weighs, by hand", Promise14WeightTest::tables);
        Check.sentence("14: What all vectors weigh.", Promise14WeightTest::allTogether);
        Check.sentence("14: only what is made weighs", Promise14WeightTest::onlyWhatIsMade);
        Check.end();
    }

    private static void tables() {
        table(3, TWO_OF_3);
        table(64, TWO_OF_64);
    }

    private static void table(int w, int[] two) {
        grows(w, "input", x -> x.input(7), 7);
        grows(w, "constant", x -> x.constant(7, 0), 7);
        grows(w, "NOT", x -> x.one(0, 0), w);
        grows(w, "NEG", x -> x.one(1, 0), 10 * w);
        for (int kind = 0; kind < two.length; kind++) {
            int k = kind;
            grows(w, "two " + kind, x -> x.two(k, 0, 0), two[kind]);
        }
        for (int kind = 0; kind < Reference.COMPARISONS; kind++) {
            int k = kind;
            grows(w, "compare " + kind, x -> x.compare(k, 0, 0), 10 * w);
        }
        grows(w, "choose", x -> x.choose(1, 0, 0), 4 * w);
        grows(w, "concat", x -> x.concat(1, 1), 2);
        grows(w, "extract", x -> x.extract(0, 2, 1), 2);
        grows(w, "extend", x -> x.extend(1, 9, true), 10);
    }

    private static void grows(int w, String what, Calls making, int want) {
        VectorBench x = new VectorBench();
        x.input(w);
        x.input(1);
        making.in(x);
        Check.due("weight() with " + what + " of " + w, x::weight, w + 1 + want);
    }

    private static void allTogether() {
        VectorBench none = new VectorBench();
        Check.due("weight() of none", none::weight, 0);
        VectorBench x = Making.bench(8);
        int weight = 9;
        Check.due("weight()", x::weight, weight);
        for (Making making : Making.all(8)) {
            making.call.in(x);
            weight += making.weight;
            Check.due("weight() with " + making.name + " too", x::weight, weight);
        }
    }

    /** Neither what is set or asked for nor what is refused, up to the very limit. */
    private static void onlyWhatIsMade() {
        VectorBench x = new VectorBench();
        x.input(64);
        x.two(8, 0, 0);
        Check.due("weight()", x::weight, 70720);
        Check.refused(x, "another division", () -> x.two(6, 0, 0), Check.STATE);
        Check.refused(x, "an input too wide", () -> x.input(65), Check.ARGUMENT);
        Check.fill(x, 1);
        Check.due("weight()", x::weight, 99999);
        x.set(0, -1);
        x.value(1);
        x.width(1);
        Check.due("weight() behind set, value and width", x::weight, 99999);
        x.input(1);
        Check.due("weight() in full", x::weight, 100000);
        Check.refused(x, "an input more", () -> x.input(1), Check.STATE);
    }
}
