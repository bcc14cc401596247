/** "for any setting of the inputs each has the value that the reckoning names": long chains beside a model. */
public final class ChainsTest {
    private final VectorBench x = new VectorBench();
    private final Reference.Dice dice;
    private final int[] widths = new int[600];
    private final int[][] from = new int[600][];
    private final long[] set = new long[600];
    private int count = 0;
    private int weight = 0;
    private int calls = 0;

    private ChainsTest(long seed) {
        dice = new Reference.Dice(seed);
    }

    public static void main(String[] args) {
        Check.sentence("for any setting of the inputs each has the value that the reckoning names",
            ChainsTest::allChains);
        Check.end();
    }

    private static void allChains() {
        for (int seed = 0; seed < 60; seed++) {
            new ChainsTest(seed).run(seed % 2 == 0 ? 6 : 64);
        }
    }

    private void run(int widest) {
        while (calls < 300) {
            calls++;
            int what = dice.below(14);
            if (what < 2 || count < 3) {
                int w = 1 + dice.below(widest);
                add(what == 0 ? 0 : 1, w, dice.next(), 0, 0, 0);
            } else if (what < 8) {
                step();
            } else if (what < 10) {
                setSome();
            } else {
                int v = dice.below(count);
                Check.same("value(" + v + ")", x.value(v), model(v));
            }
        }
        long[] all = models();
        for (int v = 0; v < count; v++) {
            Check.same("value(" + v + ") at the end", x.value(v), all[v]);
        }
    }

    private void setSome() {
        int v = dice.below(count);
        if (from[v][0] == 0) {
            long value = dice.next();
            Check.same("set(" + v + ")", x.set(v, value), set[v]);
            set[v] = Reference.told(widths[v], Reference.number(widths[v], value));
        }
    }

    private void step() {
        int a = dice.below(count);
        int b = partner(widths[a]);
        int w = widths[a];
        switch (dice.below(7)) {
            case 0: add(2, w, 0, dice.below(2), a, 0); break;
            case 1: add(3, w, 0, dice.below(13), a, b); break;
            case 2: add(4, 1, 0, dice.below(5), a, b); break;
            case 3: add(5, w, 0, partner(1), a, b); break;
            case 4: add(6, w + widths[b], 0, 0, a, b); break;
            case 5: {
                int low = dice.below(w);
                int high = low + dice.below(w - low);
                add(7, high - low + 1, 0, a, high, low);
                break;
            }
            default: {
                int by = dice.below(65 - w);
                add(8, w + by, 0, a, by, dice.below(2));
                break;
            }
        }
    }

    private int partner(int w) {
        int at = dice.below(count);
        for (int i = 0; i < count; i++) {
            int v = (at + i) % count;
            if (widths[v] == w) {
                return v;
            }
        }
        return at;
    }

    /** Asks for a vector; where widths don't fit or it is too heavy, it must be refused, and the model stays. */
    private void add(int how, int w, long value, int k, int a, int b) {
        String got = Check.answer(() -> make(how, w, value, k, a, b));
        if (!fits(how, w, k, a, b)) {
            Check.same("making " + how, got, Check.ARGUMENT);
        } else if (weigh(how, w, k, a) > Check.MOST_WEIGHT - weight) {
            Check.same("making " + how, got, Check.STATE);
        } else {
            Check.same("making " + how, got, Integer.toString(count));
            widths[count] = w;
            from[count] = new int[] {how, k, a, b};
            set[count] = how == 1 ? Reference.told(w, Reference.number(w, value)) : 0;
            count++;
            weight += weigh(how, w, k, a);
        }
        Check.same("weight behind making " + how, x.weight(), weight);
    }

    private int weigh(int how, int w, int k, int a) {
        switch (how) {
            case 2: return Reference.weightOfOne(k, w);
            case 3: return Reference.weightOfTwo(k, w);
            case 4: return 10 * widths[a];
            case 5: return 4 * w;
            default: return w;
        }
    }

    private boolean fits(int how, int w, int k, int a, int b) {
        switch (how) {
            case 3: case 4: return widths[a] == widths[b];
            case 5: return widths[a] == widths[b] && widths[k] == 1;
            default: return w <= 64;
        }
    }

    private long make(int how, int w, long value, int k, int a, int b) {
        switch (how) {
            case 0: return x.input(w);
            case 1: return x.constant(w, value);
            case 2: return x.one(k, a);
            case 3: return x.two(k, a, b);
            case 4: return x.compare(k, a, b);
            case 5: return x.choose(k, a, b);
            case 6: return x.concat(a, b);
            case 7: return x.extract(k, a, b);
            default: return x.extend(k, a, b == 1);
        }
    }

    private long model(int v) {
        return models()[v];
    }

    private long[] models() {
        long[] all = new long[count];
        for (int v = 0; v < count; v++) {
            int k = from[v][1];
            int a = from[v][2];
            int b = from[v][3];
            switch (from[v][0]) {
                case 0: case 1: all[v] = set[v]; break;
                case 2: all[v] = Reference.one(k, widths[a], all[a]); break;
                case 3: all[v] = Reference.two(k, widths[a], all[a], all[b]); break;
                case 4: all[v] = Reference.compare(k, widths[a], all[a], all[b]); break;
                case 5: all[v] = all[k] == 1 ? all[a] : all[b]; break;
                case 6: all[v] = all[a] << widths[b] | all[b]; break;
                case 7: all[v] = Reference.told(widths[v], Reference.number(64, all[k]).shiftRight(b)); break;
                default:
                    all[v] = Reference.told(widths[v], b == 1
                        ? Reference.signed(widths[k], all[k]) : Reference.number(widths[k], all[k]));
                    break;
            }
        }
        return all;
    }
}
