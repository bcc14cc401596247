import java.lang.reflect.Field;

/** No reckoning makes more gates than it weighs: the promise that README.md makes of the room. */
public final class RoomTest {
    private interface Making {
        void in(VectorBench x);
    }

    public static void main(String[] args) throws ReflectiveOperationException {
        for (int w = 1; w <= 64; w++) {
            int width = w;
            grows(w, "input", x -> x.input(width));
            grows(w, "constant", x -> x.constant(width, 5));
            for (int kind = 0; kind < Reference.ONES; kind++) {
                int k = kind;
                grows(w, "one " + kind, x -> x.one(k, 0));
            }
            for (int kind = 0; kind < Reference.TWOS; kind++) {
                int k = kind;
                grows(w, "two " + kind, x -> x.two(k, 0, 0));
            }
            for (int kind = 0; kind < Reference.COMPARISONS; kind++) {
                int k = kind;
                grows(w, "compare " + kind, x -> x.compare(k, 0, 0));
            }
            grows(w, "choose", x -> x.choose(1, 0, 0));
            grows(w, "concat", x -> x.concat(1, 1));
            grows(w, "extract", x -> x.extract(0, width - 1, 0));
            grows(w, "extend", x -> x.extend(0, 64 - width, true));
        }
        Check.end();
    }

    private static void grows(int w, String what, Making making) throws ReflectiveOperationException {
        VectorBench x = new VectorBench();
        x.input(w);
        x.input(1);
        int gates = gates(x);
        int weight = x.weight();
        making.in(x);
        Check.same(what + " of " + w + " makes " + (gates(x) - gates) + " gates, more than it weighs",
            gates(x) - gates > x.weight() - weight, false);
    }

    private static int gates(VectorBench x) throws ReflectiveOperationException {
        Field circuit = VectorBench.class.getDeclaredField("circuit");
        circuit.setAccessible(true);
        Object held = circuit.get(x);
        Field count = held.getClass().getDeclaredField("count");
        count.setAccessible(true);
        return count.getInt(held);
    }
}
