import java.util.ArrayList;
import java.util.Arrays;

/**
 * Vectors of bits and what is reckoned with them, all made as circuits of gates.
 *
 * <p>A vector is a row of signals, the lowest bit first. No reckoning adds more gates to the circuit
 * than it weighs, so the limit on the weight bounds the gates too.
 */
public final class VectorBench {
    private static final int MOST_VECTORS = 4000;
    private static final int MOST_WEIGHT = 100000;
    private static final int WIDEST = 64;

    private static final int NOT = 0;
    private static final int NEG = 1;

    private static final int AND = 0;
    private static final int OR = 1;
    private static final int XOR = 2;
    private static final int ADD = 3;
    private static final int SUB = 4;
    private static final int MUL = 5;
    private static final int DIVIDE = 6;
    private static final int REST = 7;
    private static final int SIGNED_DIVIDE = 8;
    private static final int SIGNED_REST = 9;
    private static final int SHIFT_LEFT = 10;
    private static final int SHIFT_RIGHT = 11;
    private static final int SIGNED_SHIFT_RIGHT = 12;

    private static final int EQUAL = 0;
    private static final int LESS = 1;
    private static final int NOT_GREATER = 2;
    private static final int SIGNED_LESS = 3;
    private static final int SIGNED_NOT_GREATER = 4;

    private final Reckoner reckoner;
    private final Circuit circuit;
    private final ArrayList<Vector> made;
    private int weighed;

    public VectorBench() {
        reckoner = new Reckoner();
        circuit = reckoner.circuit;
        made = new ArrayList<Vector>();
        weighed = 0;
    }

    public int input(int width) throws IllegalArgumentException, IllegalStateException {
        needWidth(width);
        needRoom(width);
        int[] bits = new int[width];
        for (int i = 0; i < width; i++) {
            bits[i] = circuit.source();
        }
        return keep(new Vector(bits, true), width);
    }

    public int constant(int width, long value) throws IllegalArgumentException, IllegalStateException {
        needWidth(width);
        needRoom(width);
        int[] bits = new int[width];
        for (int i = 0; i < width; i++) {
            bits[i] = bitOf(value, i) == 1 ? Circuit.HIGH : Circuit.LOW;
        }
        return keep(new Vector(bits, false), width);
    }

    public int one(int kind, int a) throws IllegalArgumentException, IllegalStateException {
        needKind(kind, NEG);
        int[] bits = bitsOf(a);
        int weight = kind == NOT ? bits.length : 10 * bits.length;
        needRoom(weight);
        int[] result = kind == NOT ? reckoner.inverted(bits) : reckoner.negatedIf(Circuit.HIGH, bits);
        return keep(new Vector(result, false), weight);
    }

    public int two(int kind, int a, int b) throws IllegalArgumentException, IllegalStateException {
        needKind(kind, SIGNED_SHIFT_RIGHT);
        int[] first = bitsOf(a);
        int[] second = bitsOf(b);
        needSameWidth(first, second);
        int weight = weightOfTwo(kind, first.length);
        needRoom(weight);
        return keep(new Vector(reckonTwo(kind, first, second), false), weight);
    }

    public int compare(int kind, int a, int b) throws IllegalArgumentException, IllegalStateException {
        needKind(kind, SIGNED_NOT_GREATER);
        int[] first = bitsOf(a);
        int[] second = bitsOf(b);
        needSameWidth(first, second);
        int weight = 10 * first.length;
        needRoom(weight);
        int[] bits = new int[1];
        bits[0] = reckonComparison(kind, first, second);
        return keep(new Vector(bits, false), weight);
    }

    public int choose(int c, int a, int b) throws IllegalArgumentException, IllegalStateException {
        int[] condition = bitsOf(c);
        int[] first = bitsOf(a);
        int[] second = bitsOf(b);
        needSameWidth(first, second);
        if (condition.length != 1) {
            throw new IllegalArgumentException("what chooses is not of width 1");
        }
        int weight = 4 * first.length;
        needRoom(weight);
        return keep(new Vector(reckoner.picked(condition[0], first, second), false), weight);
    }

    public int concat(int a, int b) throws IllegalArgumentException, IllegalStateException {
        int[] upper = bitsOf(a);
        int[] lower = bitsOf(b);
        int width = upper.length + lower.length;
        needWidth(width);
        needRoom(width);
        int[] bits = Arrays.copyOf(lower, width);
        System.arraycopy(upper, 0, bits, lower.length, upper.length);
        return keep(new Vector(bits, false), width);
    }

    public int extract(int a, int high, int low) throws IllegalArgumentException, IllegalStateException {
        int[] whole = bitsOf(a);
        if (low < 0 || high < low || high >= whole.length) {
            throw new IllegalArgumentException("there are no such bits");
        }
        int width = high - low + 1;
        needRoom(width);
        return keep(new Vector(Arrays.copyOfRange(whole, low, high + 1), false), width);
    }

    public int extend(int a, int by, boolean signed) throws IllegalArgumentException, IllegalStateException {
        int[] lower = bitsOf(a);
        // By is held against what is free, since the sum of both could wrap around.
        if (by < 0 || by > WIDEST - lower.length) {
            throw new IllegalArgumentException("it can't be wider by so many bits");
        }
        int width = lower.length + by;
        needRoom(width);
        int[] bits = Arrays.copyOf(lower, width);
        Arrays.fill(bits, lower.length, width, signed ? lower[lower.length - 1] : Circuit.LOW);
        return keep(new Vector(bits, false), width);
    }

    public long set(int v, long value) throws IllegalArgumentException {
        int[] bits = bitsOf(v);
        if (!made.get(v).settable) {
            throw new IllegalArgumentException("the vector is no input");
        }
        long before = 0;
        for (int i = 0; i < bits.length; i++) {
            before |= (long) circuit.put(bits[i], bitOf(value, i)) << i;
        }
        return before;
    }

    public long value(int v) throws IllegalArgumentException {
        int[] bits = bitsOf(v);
        long told = 0;
        for (int i = 0; i < bits.length; i++) {
            told |= (long) circuit.read(bits[i]) << i;
        }
        return told;
    }

    public int width(int v) throws IllegalArgumentException {
        return bitsOf(v).length;
    }

    public int weight() {
        return weighed;
    }

    public int vectors() {
        return made.size();
    }

    private static int bitOf(long value, int place) {
        return (int) (value >>> place & 1L);
    }

    private static void needWidth(int width) {
        if (width < 1 || width > WIDEST) {
            throw new IllegalArgumentException("a width is 1 .. 64");
        }
    }

    private static void needKind(int kind, int last) {
        if (kind < 0 || kind > last) {
            throw new IllegalArgumentException("there is no such kind");
        }
    }

    private static void needSameWidth(int[] a, int[] b) {
        if (a.length != b.length) {
            throw new IllegalArgumentException("the widths are not the same");
        }
    }

    private void needRoom(int weight) {
        if (made.size() >= MOST_VECTORS || weight > MOST_WEIGHT - weighed) {
            throw new IllegalStateException("there are 4000 vectors, or they would weigh more than 100000");
        }
    }

    private int[] bitsOf(int v) {
        if (v < 0 || v >= made.size()) {
            throw new IllegalArgumentException("there is no such vector");
        }
        return made.get(v).bits;
    }

    private int keep(Vector vector, int weight) {
        made.add(vector);
        weighed += weight;
        return made.size() - 1;
    }

    private static int weightOfTwo(int kind, int w) {
        switch (kind) {
            case AND:
            case OR:
            case XOR:
                return 4 * w;
            case ADD:
            case SUB:
                return 10 * w;
            case MUL:
                return 14 * w * w;
            case DIVIDE:
            case REST:
                return 16 * w * w + 32 * w;
            case SIGNED_DIVIDE:
            case SIGNED_REST:
                return 16 * w * w + 80 * w;
            default:
                return 30 * w;
        }
    }

    private int[] reckonTwo(int kind, int[] a, int[] b) {
        switch (kind) {
            case AND:
                return reckoner.joined(Circuit.AND_GATE, a, b);
            case OR:
                return reckoner.joined(Circuit.OR_GATE, a, b);
            case XOR:
                return reckoner.joined(Circuit.XOR_GATE, a, b);
            case ADD:
                return Reckoner.withoutCarry(reckoner.sum(a, b, Circuit.LOW));
            case SUB:
                return Reckoner.withoutCarry(reckoner.sum(a, reckoner.inverted(b), Circuit.HIGH));
            case MUL:
                return reckoner.product(a, b);
            case DIVIDE:
            case REST:
                return reckoner.divided(a, b, kind == REST);
            case SIGNED_DIVIDE:
            case SIGNED_REST:
                return reckoner.dividedWithSign(a, b, kind == SIGNED_REST);
            case SHIFT_LEFT:
                return reckoner.shifted(a, b, true, Circuit.LOW);
            case SHIFT_RIGHT:
                return reckoner.shifted(a, b, false, Circuit.LOW);
            default:
                return reckoner.shifted(a, b, false, a[a.length - 1]);
        }
    }

    private int reckonComparison(int kind, int[] a, int[] b) {
        switch (kind) {
            case EQUAL:
                return reckoner.same(a, b);
            case LESS:
                return circuit.not(reckoner.atLeast(a, b));
            case NOT_GREATER:
                return reckoner.atLeast(b, a);
            case SIGNED_LESS:
                return circuit.not(reckoner.atLeast(reckoner.signTurned(a), reckoner.signTurned(b)));
            default:
                return reckoner.atLeast(reckoner.signTurned(b), reckoner.signTurned(a));
        }
    }

    /** What is kept of one vector. */
    private static final class Vector {
        final int[] bits;
        final boolean settable;

        Vector(int[] bits, boolean settable) {
            this.bits = bits;
            this.settable = settable;
        }
    }

    /**
     * Signals, each numbered above all that it reads; so one pass upwards settles them, and a change
     * of a source leaves all below it as they are.
     */
    private static final class Circuit {
        static final int LOW = 0;
        static final int HIGH = 1;

        static final int SOURCE = 0;
        static final int AND_GATE = 1;
        static final int OR_GATE = 2;
        static final int XOR_GATE = 3;

        private static final int FIRST_ROOM = 64;

        private int[] kinds;
        private int[] lefts;
        private int[] rights;
        private int[] states;
        private int count;
        private int settled;

        Circuit() {
            kinds = new int[FIRST_ROOM];
            lefts = new int[FIRST_ROOM];
            rights = new int[FIRST_ROOM];
            states = new int[FIRST_ROOM];
            states[HIGH] = 1;
            count = HIGH + 1;
            settled = count;
        }

        int source() {
            return gate(SOURCE, LOW, LOW);
        }

        int and(int left, int right) {
            return gate(AND_GATE, left, right);
        }

        int or(int left, int right) {
            return gate(OR_GATE, left, right);
        }

        int xor(int left, int right) {
            return gate(XOR_GATE, left, right);
        }

        int not(int signal) {
            return gate(XOR_GATE, signal, HIGH);
        }

        int gate(int kind, int left, int right) {
            if (count >= kinds.length) {
                int room = 2 * count;
                kinds = Arrays.copyOf(kinds, room);
                lefts = Arrays.copyOf(lefts, room);
                rights = Arrays.copyOf(rights, room);
                states = Arrays.copyOf(states, room);
            }
            kinds[count] = kind;
            lefts[count] = left;
            rights[count] = right;
            count++;
            return count - 1;
        }

        /** Gives a source another state: the one before. */
        int put(int signal, int state) {
            int before = states[signal];
            if (before != state) {
                states[signal] = state;
                settled = Math.min(settled, signal + 1);
            }
            return before;
        }

        int read(int signal) {
            for (int g = settled; g <= signal; g++) {
                settle(g);
            }
            settled = Math.max(settled, signal + 1);
            return states[signal];
        }

        private void settle(int g) {
            int left = states[lefts[g]];
            int right = states[rights[g]];
            switch (kinds[g]) {
                case AND_GATE:
                    states[g] = left & right;
                    break;
                case OR_GATE:
                    states[g] = left | right;
                    break;
                case XOR_GATE:
                    states[g] = left ^ right;
                    break;
                default:
                    break;
            }
        }
    }

    /**
     * Makes the gates of what is reckoned with rows of signals. A new row is all LOW, since LOW is
     * signal 0. Where two rows come, the caller has seen that they are equally wide.
     */
    private static final class Reckoner {
        final Circuit circuit;

        Reckoner() {
            circuit = new Circuit();
        }

        int[] inverted(int[] a) {
            int[] row = new int[a.length];
            for (int i = 0; i < a.length; i++) {
                row[i] = circuit.not(a[i]);
            }
            return row;
        }

        int[] negatedIf(int condition, int[] a) {
            int[] turned = new int[a.length];
            for (int i = 0; i < a.length; i++) {
                turned[i] = circuit.xor(a[i], condition);
            }
            return withoutCarry(sum(turned, new int[a.length], condition));
        }

        int[] joined(int gate, int[] a, int[] b) {
            int[] row = new int[a.length];
            for (int i = 0; i < a.length; i++) {
                row[i] = circuit.gate(gate, a[i], b[i]);
            }
            return row;
        }

        /** The bits of a, b and a carry together, and above them the carry that goes out. */
        int[] sum(int[] a, int[] b, int carry) {
            int[] row = new int[a.length + 1];
            int in = carry;
            for (int i = 0; i < a.length; i++) {
                int odd = circuit.xor(a[i], b[i]);
                row[i] = circuit.xor(odd, in);
                in = circuit.or(circuit.and(a[i], b[i]), circuit.and(odd, in));
            }
            row[a.length] = in;
            return row;
        }

        static int[] withoutCarry(int[] sum) {
            return Arrays.copyOf(sum, Math.max(sum.length - 1, 0));
        }

        /** As wide as b; a may be wider, so that a sum need not be cut first. */
        int[] picked(int condition, int[] a, int[] b) {
            int[] row = new int[b.length];
            for (int i = 0; i < b.length; i++) {
                int differs = circuit.xor(a[i], b[i]);
                row[i] = circuit.xor(b[i], circuit.and(condition, differs));
            }
            return row;
        }

        int[] product(int[] a, int[] b) {
            int width = a.length;
            int[] total = new int[width];
            for (int i = 0; i < width; i++) {
                int[] part = new int[width - i];
                for (int j = 0; j < part.length; j++) {
                    part[j] = circuit.and(a[j], b[i]);
                }
                int[] added = sum(Arrays.copyOfRange(total, i, width), part, Circuit.LOW);
                System.arraycopy(added, 0, total, i, part.length);
            }
            return total;
        }

        /**
         * Long division, the highest bit first. A divisor 0 needs no case of its own: it can always be
         * taken away, which makes all bits of the quotient 1 and leaves a.
         */
        int[] divided(int[] a, int[] b, boolean wantsRest) {
            int width = a.length;
            int[] takenAway = inverted(b);
            int[] quotient = new int[width];
            int[] rest = new int[width];
            for (int i = width - 1; i >= 0; i--) {
                // The highest bit of the rest is 0 here: a rest is no greater than the part of a that is done.
                int[] next = moved(rest, 1, true, a[i]);
                int[] tried = sum(next, takenAway, Circuit.HIGH);
                quotient[i] = tried[width];
                rest = picked(quotient[i], tried, next);
            }
            return wantsRest ? rest : quotient;
        }

        /** Divides without signs and sets the sign behind; what comes of a divisor 0 then fits too. */
        int[] dividedWithSign(int[] a, int[] b, boolean wantsRest) {
            int signOfA = a[a.length - 1];
            int signOfB = b[b.length - 1];
            int[] result = divided(negatedIf(signOfA, a), negatedIf(signOfB, b), wantsRest);
            return negatedIf(wantsRest ? signOfA : circuit.xor(signOfA, signOfB), result);
        }

        /** Moves by 1, 2, 4, .. as the bits of b say; a bit of b that is worth the width or more moves all out. */
        int[] shifted(int[] a, int[] b, boolean upwards, int fill) {
            int width = a.length;
            int[] row = a;
            int beyond = Circuit.LOW;
            int step = 1;
            for (int i = 0; i < width; i++) {
                if (step < width) {
                    row = picked(b[i], moved(row, step, upwards, fill), row);
                    step *= 2;
                } else {
                    beyond = circuit.or(beyond, b[i]);
                }
            }
            return picked(beyond, moved(row, width, upwards, fill), row);
        }

        static int[] moved(int[] a, int by, boolean upwards, int fill) {
            int[] row = new int[a.length];
            for (int i = 0; i < a.length; i++) {
                int from = upwards ? i - by : i + by;
                row[i] = from >= 0 && from < a.length ? a[from] : fill;
            }
            return row;
        }

        int same(int[] a, int[] b) {
            int differs = Circuit.LOW;
            for (int i = 0; i < a.length; i++) {
                differs = circuit.or(differs, circuit.xor(a[i], b[i]));
            }
            return circuit.not(differs);
        }

        /** Without a sign: the carry that goes out when b is taken from a. */
        int atLeast(int[] a, int[] b) {
            return sum(a, inverted(b), Circuit.HIGH)[a.length];
        }

        /** With the highest bit turned, numbers with a sign stand in the order of those without. */
        int[] signTurned(int[] a) {
            int[] row = Arrays.copyOf(a, a.length);
            row[a.length - 1] = circuit.not(a[a.length - 1]);
            return row;
        }
    }
}
