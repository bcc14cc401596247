/** Whatever the arguments and the state: a call answers, or throws one of its own two exceptions. */
public final class AnyArgumentsTest {
    private static final int[] ODD = {Integer.MIN_VALUE, Integer.MIN_VALUE + 1, -65, -2, -1, 0, 1, 2, 3, 12, 13,
        31, 32, 33, 63, 64, 65, 3999, 4000, 4001, Integer.MAX_VALUE - 1, Integer.MAX_VALUE};

    private final VectorBench x = new VectorBench();
    private final Reference.Dice dice;

    private AnyArgumentsTest(long seed) {
        dice = new Reference.Dice(seed);
    }

    public static void main(String[] args) {
        for (int seed = 0; seed < 40; seed++) {
            AnyArgumentsTest test = new AnyArgumentsTest(seed);
            int calls = seed == 0 ? 20000 : 3000;
            for (int i = 0; i < calls; i++) {
                test.call();
            }
        }
        Check.end();
    }

    private int any() {
        int way = dice.below(8);
        if (way == 0) {
            return ODD[dice.below(ODD.length)];
        }
        return way < 4 ? dice.below(14) : dice.below(x.vectors() + 1);
    }

    private void call() {
        int vectors = x.vectors();
        int weight = x.weight();
        int what = dice.below(12);
        int a = any();
        int b = any();
        int c = any();
        String got = Check.answer(() -> run(what, a, b, c));
        String call = "call " + what + " of " + a + ", " + b + ", " + c;
        boolean made = what < 9 && !got.startsWith("throws.");
        if (got.startsWith("throws.")) {
            boolean own = got.equals(Check.ARGUMENT) || what < 9 && got.equals(Check.STATE);
            Check.same(call + " throws its own: " + got, own, true);
        }
        if (made) {
            Check.same(call, got, Integer.toString(vectors));
        }
        Check.same("vectors() behind " + call, x.vectors(), made ? vectors + 1 : vectors);
        Check.same("weight() behind " + call + " grew", x.weight() > weight, made);
        Check.same("weight() behind " + call + " is too much", x.weight() > 100000, false);
    }

    private long run(int what, int a, int b, int c) {
        switch (what) {
            case 0: return x.input(a);
            case 1: return x.constant(a, b);
            case 2: return x.one(a, b);
            case 3: return x.two(a, b, c);
            case 4: return x.compare(a, b, c);
            case 5: return x.choose(a, b, c);
            case 6: return x.concat(a, b);
            case 7: return x.extract(a, b, c);
            case 8: return x.extend(a, b, (c & 1) == 1);
            case 9: return x.set(a, b);
            case 10: return x.value(a);
            default: return x.width(a);
        }
    }
}
