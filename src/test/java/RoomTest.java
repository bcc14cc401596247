import java.lang.reflect.Field;

/** No reckoning makes more gates than it weighs: the promise that README.md makes of the room. */
public final class RoomTest {
    public static void main(String[] args) throws ReflectiveOperationException {
        for (int w = 1; w <= 64; w++) {
            for (Making making : Making.all(w)) {
                VectorBench x = Making.bench(w);
                int before = gates(x);
                making.call.in(x);
                int more = gates(x) - before;
                Check.same(making.name + " of " + w + " makes " + more + " gates, more than it weighs",
                    more > making.weight, false);
            }
        }
        Check.end();
    }

    private static int gates(VectorBench x) throws ReflectiveOperationException {
        Field circuit = VectorBench.class.getDeclaredField("circuit");
        circuit.setAccessible(true);
        Object held = circuit.get(x);
        Field count = held.getClass().getDeclaredField("count");
        count.setAccessible(true);
        return count.getInt(held);
    }
}
