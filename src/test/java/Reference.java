import java.math.BigInteger;

/** What the document says of the values, in numbers without a bound and without any gates. */
final class Reference {
    static final int ONES = 2;
    static final int TWOS = 13;
    static final int COMPARISONS = 5;

    private Reference() {
    }

    static BigInteger number(int w, long value) {
        return cut(w, BigInteger.valueOf(value));
    }

    static BigInteger signed(int w, long value) {
        BigInteger n = number(w, value);
        return n.testBit(w - 1) ? n.subtract(BigInteger.ONE.shiftLeft(w)) : n;
    }

    static long told(int w, BigInteger n) {
        return cut(w, n).longValue();
    }

    private static BigInteger cut(int w, BigInteger n) {
        return n.mod(BigInteger.ONE.shiftLeft(w));
    }

    static long one(int kind, int w, long a) {
        return told(w, kind == 0 ? number(w, a).not() : number(w, a).negate());
    }

    static long two(int kind, int w, long a, long b) {
        BigInteger m = number(w, a);
        BigInteger n = number(w, b);
        BigInteger s = signed(w, a);
        BigInteger t = signed(w, b);
        boolean none = n.signum() == 0;
        boolean allGo = n.compareTo(BigInteger.valueOf(w)) >= 0;
        int by = allGo ? w : n.intValue();
        switch (kind) {
            case 0: return told(w, m.and(n));
            case 1: return told(w, m.or(n));
            case 2: return told(w, m.xor(n));
            case 3: return told(w, m.add(n));
            case 4: return told(w, m.subtract(n));
            case 5: return told(w, m.multiply(n));
            case 6: return told(w, none ? BigInteger.valueOf(-1) : m.divide(n));
            case 7: return told(w, none ? m : m.remainder(n));
            case 8: return told(w, none ? BigInteger.valueOf(s.signum() < 0 ? 1 : -1) : s.divide(t));
            case 9: return told(w, none ? s : s.remainder(t));
            case 10: return told(w, m.shiftLeft(by));
            case 11: return told(w, m.shiftRight(by));
            default: return told(w, s.shiftRight(by));
        }
    }

    static long compare(int kind, int w, long a, long b) {
        int plain = number(w, a).compareTo(number(w, b));
        int withSign = signed(w, a).compareTo(signed(w, b));
        switch (kind) {
            case 0: return plain == 0 ? 1 : 0;
            case 1: return plain < 0 ? 1 : 0;
            case 2: return plain <= 0 ? 1 : 0;
            case 3: return withSign < 0 ? 1 : 0;
            default: return withSign <= 0 ? 1 : 0;
        }
    }

    static int weightOfOne(int kind, int w) {
        return kind == 0 ? w : 10 * w;
    }

    static int weightOfTwo(int kind, int w) {
        int[] weights = {4 * w, 4 * w, 4 * w, 10 * w, 10 * w, 14 * w * w,
            16 * w * w + 32 * w, 16 * w * w + 32 * w, 16 * w * w + 80 * w, 16 * w * w + 80 * w,
            30 * w, 30 * w, 30 * w};
        return weights[kind];
    }

    /** The values of a width at which something turns: round 0, round the sign, round the width. */
    static long[] edges(int w) {
        long low = w == 1 ? 1 : (1L << (w - 1)) - 1;
        return new long[] {0, 1, 2, 3, 5, w - 1, w, w + 1, 2L * w, -1, -2, -3, -w, low, low + 1, low + 2,
            0x5555555555555555L, 0xAAAAAAAAAAAAAAAAL, 0x0123456789ABCDEFL};
    }

    /** The same row of numbers in each run, since no test may hang on chance. */
    static final class Dice {
        private long state;

        Dice(long seed) {
            state = seed;
        }

        long next() {
            state = state * 6364136223846793005L + 1442695040888963407L;
            long mixed = (state ^ (state >>> 29)) * 0xBF58476D1CE4E5B9L;
            return mixed ^ (mixed >>> 32);
        }

        int below(int bound) {
            return (int) Long.remainderUnsigned(next(), bound);
        }
    }
}
