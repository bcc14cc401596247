/** Promise 11: an input's value changes, and with it what is made of it. */
public final class Promise11SetTest {
    public static void main(String[] args) {
        Check.sentence("11: Sets an input's value ..: the one before.", Promise11SetTest::valuesBefore);
        Check.sentence("11: Sets an input's value, and that of no other", Promise11SetTest::noOther);
        Check.sentence("11: all that is made of it has the values that come of this", Promise11SetTest::allFollows);
        Check.sentence("11: .. also where inputs are made behind it", Promise11SetTest::laterInputs);
        Check.sentence("11: Illegal argument", Promise11SetTest::noSuchVector);
        Check.sentence("11: Illegal argument: also if the vector is no input.", Promise11SetTest::noInput);
        Check.sentence("11: no illegal state", Promise11SetTest::fullBench);
        Check.end();
    }

    private static void valuesBefore() {
        for (int w = 1; w <= 64; w++) {
            VectorBench x = new VectorBench();
            x.input(w);
            long before = 0;
            for (long value : Reference.edges(w)) {
                Check.due("width " + w + ": set(0, " + value + ")", () -> x.set(0, value), before);
                before = Reference.told(w, Reference.number(w, value));
                Check.due("set(0, " + value + ") again", () -> x.set(0, value), before);
                Check.due("value(0)", () -> x.value(0), before);
            }
            Check.same("weight behind sets", x.weight(), w);
            Check.same("vectors behind sets", x.vectors(), 1);
        }
    }

    private static void noOther() {
        VectorBench x = new VectorBench();
        for (int v = 0; v < 3; v++) {
            x.input(64);
        }
        x.set(1, -1);
        Check.due("value(0)", () -> x.value(0), 0);
        Check.due("value(1)", () -> x.value(1), -1);
        Check.due("value(2)", () -> x.value(2), 0);
        x.set(2, 7);
        x.set(1, 0);
        Check.due("value(2)", () -> x.value(2), 7);
    }

    private static void allFollows() {
        VectorBench x = new VectorBench();
        x.input(8);
        x.input(8);
        x.two(3, 0, 1);
        x.two(5, 2, 0);
        x.extract(3, 7, 4);
        x.extend(4, 4, true);
        x.compare(1, 5, 1);
        x.choose(6, 3, 5);
        Reference.Dice dice = new Reference.Dice(11);
        for (int i = 0; i < 200; i++) {
            x.set(dice.below(2), dice.next());
            long a = x.value(0);
            long b = x.value(1);
            long product = Reference.two(5, 8, a + b, a);
            long extended = Reference.told(8, Reference.signed(4, product >> 4));
            Check.same("what follows of " + a + " and " + b, x.value(7),
                Long.compareUnsigned(extended, b) < 0 ? product : extended);
        }
    }

    /** An input made behind gates, and set in turn with an earlier one. */
    private static void laterInputs() {
        VectorBench x = new VectorBench();
        x.input(16);
        x.two(5, 0, 0);
        x.set(0, 3);
        x.input(16);
        x.two(3, 1, 2);
        Check.same("9 and 0", x.value(3), 9L);
        Check.due("set(2, 5)", () -> x.set(2, 5), 0);
        Check.same("9 and 5", x.value(3), 14L);
        Check.due("set(0, 4)", () -> x.set(0, 4), 3);
        Check.due("set(2, 1)", () -> x.set(2, 1), 5);
        Check.same("16 and 1", x.value(3), 17L);
        x.set(0, 5);
        Check.same("25", x.value(1), 25L);
        x.two(4, 3, 1);
        Check.same("26 less 25", x.value(4), 1L);
        Check.same("26", x.value(3), 26L);
    }

    private static void noSuchVector() {
        VectorBench x = new VectorBench();
        x.input(4);
        x.set(0, 6);
        for (int bad : Check.noVectors(x)) {
            Check.refused(x, "set(" + bad + ", 1)", () -> x.set(bad, 1), Check.ARGUMENT);
        }
    }

    /** Whatever is made, be it the very bits of an input, is none. */
    private static void noInput() {
        for (int w : new int[] {1, 4, 63, 64}) {
            for (Making making : Making.all(w)) {
                VectorBench x = Making.bench(w);
                x.set(0, 5);
                int v = making.call.in(x);
                if (!making.name.equals("input")) {
                    Check.refused(x, "set of " + making.name, () -> x.set(v, 2), Check.ARGUMENT);
                    Check.refused(x, "set of " + making.name + " to what it has",
                        () -> x.set(v, x.value(v)), Check.ARGUMENT);
                } else {
                    Check.due("set of an input", () -> x.set(v, 1), 0);
                }
            }
        }
    }

    private static void fullBench() {
        VectorBench x = Check.withRoom(0);
        Check.due("set(0, 77) without room", () -> x.set(0, 77), 0);
        Check.due("value(0) without room", () -> x.value(0), 77);
        Check.refused(x, "set(1, 77) without room, of no input", () -> x.set(1, 77), Check.ARGUMENT);
    }
}
