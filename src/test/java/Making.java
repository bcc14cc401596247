import java.util.ArrayList;
import java.util.List;

/**
 * One call that makes a vector, with the width and the weight that the document gives it; for a bench
 * whose vector 0 has width w and whose vector 1 has width 1. No test by itself.
 */
final class Making {
    interface Call {
        int in(VectorBench x);
    }

    final String name;
    final int width;
    final int weight;
    final Call call;

    private Making(String name, int width, int weight, Call call) {
        this.name = name;
        this.width = width;
        this.weight = weight;
        this.call = call;
    }

    /** A bench on which the makings of a width can be called. */
    static VectorBench bench(int w) {
        VectorBench x = new VectorBench();
        x.input(w);
        x.input(1);
        return x;
    }

    /** Every call that the document has, in every kind. */
    static List<Making> all(int w) {
        List<Making> all = new ArrayList<>();
        all.add(new Making("input", w, w, x -> x.input(w)));
        all.add(new Making("constant", w, w, x -> x.constant(w, 5)));
        all.add(new Making("NOT", w, w, x -> x.one(0, 0)));
        all.add(new Making("NEG", w, 10 * w, x -> x.one(1, 0)));
        addTwos(all, w);
        for (int kind = 0; kind < Reference.COMPARISONS; kind++) {
            int k = kind;
            all.add(new Making("compare " + kind, 1, 10 * w, x -> x.compare(k, 0, 0)));
        }
        all.add(new Making("choose", w, 4 * w, x -> x.choose(1, 0, 0)));
        if (w < 64) {
            all.add(new Making("concat", w + 1, w + 1, x -> x.concat(0, 1)));
        }
        all.add(new Making("extract of all", w, w, x -> x.extract(0, w - 1, 0)));
        all.add(new Making("extract of one", 1, 1, x -> x.extract(0, w - 1, w - 1)));
        all.add(new Making("extend by none", w, w, x -> x.extend(0, 0, false)));
        all.add(new Making("extend to 64", 64, 64, x -> x.extend(0, 64 - w, true)));
        return all;
    }

    private static void addTwos(List<Making> all, int w) {
        String[] names = {"AND", "OR", "XOR", "ADD", "SUB", "MUL", "divide", "rest", "divide with a sign",
            "rest with a sign", "shift to the left", "shift to the right", "shift with a sign"};
        int[] weights = {4 * w, 4 * w, 4 * w, 10 * w, 10 * w, 14 * w * w,
            16 * w * w + 32 * w, 16 * w * w + 32 * w, 16 * w * w + 80 * w, 16 * w * w + 80 * w,
            30 * w, 30 * w, 30 * w};
        for (int kind = 0; kind < names.length; kind++) {
            int k = kind;
            all.add(new Making(names[kind], w, weights[kind], x -> x.two(k, 0, 0)));
        }
    }
}
