/** Promise 11: an input's value changes, and with it what is made of it. */
public final class Promise11SetTest {
    public static void main(String[] args) {
        valuesBefore();
        everythingFollows();
        laterInputs();
        wrongArguments();
        fullBench();
        Check.end();
    }

    private static void valuesBefore() {
        for (int w = 1; w <= 64; w++) {
            VectorBench x = new VectorBench();
            x.input(w);
            long before = 0;
            for (long value : Reference.edges(w)) {
                Check.due("width " + w + ": set(0, " + value + ")", () -> x.set(0, value), before);
                before = Reference.told(w, Reference.number(w, value));
                Check.due("value(0)", () -> x.value(0), before);
            }
            Check.same("weight behind sets", x.weight(), w);
            Check.same("vectors behind sets", x.vectors(), 1);
        }
    }

    private static void everythingFollows() {
        VectorBench x = new VectorBench();
        x.input(8);
        x.input(8);
        x.two(3, 0, 1);
        x.two(5, 2, 0);
        x.extract(3, 7, 4);
        x.extend(4, 4, true);
        x.compare(1, 5, 1);
        x.choose(6, 3, 5);
        Reference.Dice dice = new Reference.Dice(11);
        for (int i = 0; i < 200; i++) {
            x.set(dice.below(2), dice.next());
            long a = x.value(0);
            long b = x.value(1);
            long product = Reference.two(5, 8, a + b, a);
            long extended = Reference.told(8, Reference.signed(4, product >> 4));
            Check.same("what follows of " + a + " and " + b, x.value(7),
                Long.compareUnsigned(extended, b) < 0 ? product : extended);
        }
    }

    /** An input made behind gates, and set in turn with an earlier one. */
    private static void laterInputs() {
        VectorBench x = new VectorBench();
        x.input(16);
        x.two(5, 0, 0);
        x.set(0, 3);
        x.input(16);
        x.two(3, 1, 2);
        Check.same("9 and 0", x.value(3), 9L);
        Check.due("set(2, 5)", () -> x.set(2, 5), 0);
        Check.same("9 and 5", x.value(3), 14L);
        Check.due("set(0, 4)", () -> x.set(0, 4), 3);
        Check.due("set(2, 1)", () -> x.set(2, 1), 5);
        Check.same("16 and 1", x.value(3), 17L);
        x.set(0, 5);
        Check.same("25", x.value(1), 25L);
        x.two(4, 3, 1);
        Check.same("26 less 25", x.value(4), 1L);
        Check.same("26", x.value(3), 26L);
    }

    private static void wrongArguments() {
        VectorBench x = new VectorBench();
        x.input(4);
        x.set(0, 6);
        x.constant(4, 5);
        x.one(0, 0);
        x.two(0, 0, 0);
        x.compare(0, 0, 0);
        x.choose(4, 0, 0);
        x.concat(0, 0);
        x.extract(0, 3, 0);
        x.extend(0, 0, false);
        x.extend(0, 0, true);
        for (int v = 1; v < 10; v++) {
            int made = v;
            Check.refused(x, "set of vector " + v, () -> x.set(made, 1), Check.ARGUMENT);
        }
        for (int bad : new int[] {-1, 10, 4000, Integer.MAX_VALUE, Integer.MIN_VALUE}) {
            Check.refused(x, "set(" + bad + ", 1)", () -> x.set(bad, 1), Check.ARGUMENT);
        }
    }

    private static void fullBench() {
        VectorBench x = Check.withRoom(0);
        Check.due("set(0, 77) without room", () -> x.set(0, 77), 0);
        Check.due("value(0) without room", () -> x.value(0), 77);
    }
}
