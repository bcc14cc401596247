import java.util.ArrayList;
import java.util.List;

/**
 * The paragraph of 'Terms' on what is thrown: no such vector, widths that don't fit, illegal state,
 * which of several exceptions, and that a call that throws changes nothing.
 */
public final class RefusalsTest {
    /** The bench of all these tests has vectors of the widths 8, 1, 8, 9, 64, 2 first. */
    private static final int EIGHT = 0;
    private static final int SINGLE = 1;
    private static final int OTHER_EIGHT = 2;
    private static final int NINE = 3;
    private static final int WIDEST = 4;
    private static final int PAIR = 5;
    private static final int COUNT = 6;

    private interface Calls {
        long run(VectorBench x);
    }

    private static final class Wrong {
        final String name;
        final Calls call;

        Wrong(String name, Calls call) {
            this.name = name;
            this.call = call;
        }
    }

    public static void main(String[] args) {
        Check.sentence("In all calls illegal argument: there is no such vector", RefusalsTest::noSuchVector);
        Check.sentence("In all calls illegal argument: .. or widths don't fit", RefusalsTest::widthsDoNotFit);
        Check.sentence("Illegal state: .. all would weigh more than 100000", RefusalsTest::tooHeavy);
        Check.sentence("Of several exceptions the one named first is thrown", RefusalsTest::namedFirst);
        Check.sentence("a call that throws changes nothing", RefusalsTest::changesNothing);
        Check.end();
    }

    private static VectorBench bench() {
        VectorBench x = new VectorBench();
        x.input(8);
        x.input(1);
        x.input(8);
        x.input(9);
        x.input(64);
        x.input(2);
        x.set(EIGHT, 0x5A);
        x.set(SINGLE, 1);
        x.set(NINE, 0x123);
        x.set(WIDEST, 0x0123456789ABCDEFL);
        x.set(PAIR, 2);
        return x;
    }

    private static VectorBench fullBench() {
        VectorBench x = bench();
        Check.fill(x, 0);
        return x;
    }

    /** Every place in every call where a vector is named, with one that is not there. */
    private static List<Wrong> withVector(int v) {
        List<Wrong> all = new ArrayList<>();
        for (int kind = 0; kind < Reference.ONES; kind++) {
            int k = kind;
            all.add(new Wrong("one " + k, x -> x.one(k, v)));
        }
        for (int kind = 0; kind < Reference.TWOS; kind++) {
            int k = kind;
            all.add(new Wrong("a of two " + k, x -> x.two(k, v, EIGHT)));
            all.add(new Wrong("b of two " + k, x -> x.two(k, EIGHT, v)));
            all.add(new Wrong("a and b of two " + k, x -> x.two(k, v, v)));
        }
        for (int kind = 0; kind < Reference.COMPARISONS; kind++) {
            int k = kind;
            all.add(new Wrong("a of compare " + k, x -> x.compare(k, v, EIGHT)));
            all.add(new Wrong("b of compare " + k, x -> x.compare(k, EIGHT, v)));
            all.add(new Wrong("a and b of compare " + k, x -> x.compare(k, v, v)));
        }
        all.add(new Wrong("c of choose", x -> x.choose(v, EIGHT, OTHER_EIGHT)));
        all.add(new Wrong("a of choose", x -> x.choose(SINGLE, v, EIGHT)));
        all.add(new Wrong("b of choose", x -> x.choose(SINGLE, EIGHT, v)));
        all.add(new Wrong("a and b of choose", x -> x.choose(SINGLE, v, v)));
        all.add(new Wrong("a of concat", x -> x.concat(v, EIGHT)));
        all.add(new Wrong("b of concat", x -> x.concat(EIGHT, v)));
        all.add(new Wrong("a and b of concat", x -> x.concat(v, v)));
        all.add(new Wrong("a of extract", x -> x.extract(v, 0, 0)));
        all.add(new Wrong("a of extend", x -> x.extend(v, 0, false)));
        all.add(new Wrong("a of extend with a sign", x -> x.extend(v, 1, true)));
        all.add(new Wrong("v of set", x -> x.set(v, 1)));
        all.add(new Wrong("v of value", x -> x.value(v)));
        all.add(new Wrong("v of width", x -> x.width(v)));
        return all;
    }

    private static List<Wrong> ofOtherWidths() {
        List<Wrong> all = new ArrayList<>();
        int[][] pairs = {{EIGHT, NINE}, {NINE, EIGHT}, {EIGHT, SINGLE}, {SINGLE, EIGHT}, {EIGHT, WIDEST},
            {WIDEST, EIGHT}, {SINGLE, PAIR}, {PAIR, SINGLE}};
        for (int[] pair : pairs) {
            int a = pair[0];
            int b = pair[1];
            String names = " of vectors " + a + " and " + b;
            for (int kind = 0; kind < Reference.TWOS; kind++) {
                int k = kind;
                all.add(new Wrong("two " + k + names, x -> x.two(k, a, b)));
            }
            for (int kind = 0; kind < Reference.COMPARISONS; kind++) {
                int k = kind;
                all.add(new Wrong("compare " + k + names, x -> x.compare(k, a, b)));
            }
            all.add(new Wrong("choose" + names, x -> x.choose(SINGLE, a, b)));
        }
        for (int c : new int[] {EIGHT, NINE, WIDEST, PAIR}) {
            all.add(new Wrong("choose by vector " + c, x -> x.choose(c, EIGHT, OTHER_EIGHT)));
            all.add(new Wrong("choose by vector " + c + " of itself", x -> x.choose(c, c, c)));
        }
        all.add(new Wrong("concat of 64 and 1", x -> x.concat(WIDEST, SINGLE)));
        all.add(new Wrong("concat of 1 and 64", x -> x.concat(SINGLE, WIDEST)));
        return all;
    }

    private static List<Wrong> ofOtherArguments() {
        List<Wrong> all = new ArrayList<>();
        for (int bad : new int[] {-1, Integer.MIN_VALUE, Integer.MAX_VALUE}) {
            all.add(new Wrong("input of " + bad, x -> x.input(bad)));
            all.add(new Wrong("constant of " + bad, x -> x.constant(bad, 1)));
            all.add(new Wrong("one of kind " + bad, x -> x.one(bad, EIGHT)));
            all.add(new Wrong("two of kind " + bad, x -> x.two(bad, EIGHT, EIGHT)));
            all.add(new Wrong("compare of kind " + bad, x -> x.compare(bad, EIGHT, EIGHT)));
            all.add(new Wrong("extract up to " + bad, x -> x.extract(EIGHT, bad, 0)));
            all.add(new Wrong("extract from " + bad, x -> x.extract(EIGHT, 7, bad)));
            all.add(new Wrong("extend by " + bad, x -> x.extend(EIGHT, bad, false)));
        }
        for (int bad : new int[] {0, 65}) {
            all.add(new Wrong("input of " + bad, x -> x.input(bad)));
            all.add(new Wrong("constant of " + bad, x -> x.constant(bad, 1)));
        }
        all.add(new Wrong("one of kind 2", x -> x.one(2, EIGHT)));
        all.add(new Wrong("two of kind 13", x -> x.two(13, EIGHT, EIGHT)));
        all.add(new Wrong("compare of kind 5", x -> x.compare(5, EIGHT, EIGHT)));
        all.add(new Wrong("extract up to 8", x -> x.extract(EIGHT, 8, 0)));
        all.add(new Wrong("extract of 3 to 4", x -> x.extract(EIGHT, 3, 4)));
        all.add(new Wrong("extend to 65", x -> x.extend(EIGHT, 57, true)));
        all.add(new Wrong("extend of 64 by 1", x -> x.extend(WIDEST, 1, false)));
        return all;
    }

    private static void refused(VectorBench x, List<Wrong> calls, String want) {
        for (Wrong wrong : calls) {
            Check.refused(x, wrong.name, () -> wrong.call.run(x), want);
        }
    }

    private static void noSuchVector() {
        VectorBench empty = new VectorBench();
        for (int v : Check.noVectors(empty)) {
            refused(empty, withVector(v), Check.ARGUMENT);
        }
        VectorBench x = bench();
        for (int v : Check.noVectors(x)) {
            refused(x, withVector(v), Check.ARGUMENT);
        }
        Check.due("value of the last there is", () -> x.value(PAIR), 2);
        Check.due("one of the last there is", () -> x.one(0, PAIR), COUNT);
        Check.due("one of what was no vector before", () -> x.one(0, COUNT), COUNT + 1);
    }

    private static void widthsDoNotFit() {
        refused(bench(), ofOtherWidths(), Check.ARGUMENT);
    }

    private static void tooHeavy() {
        VectorBench x = Making.bench(8);
        Check.fill(x, 0);
        for (Making making : Making.all(8)) {
            Check.refused(x, making.name + " without room", () -> making.call.in(x), Check.STATE);
        }
        Check.due("set without room", () -> x.set(0, 255), 0);
        Check.due("value without room", () -> x.value(0), 255);
        Check.due("width without room", () -> x.width(0), 8);
        VectorBench tooMuchAtOnce = new VectorBench();
        tooMuchAtOnce.input(64);
        tooMuchAtOnce.two(6, 0, 0);
        Check.refused(tooMuchAtOnce, "a division more", () -> tooMuchAtOnce.two(7, 0, 0), Check.STATE);
        Check.due("something light behind it", () -> tooMuchAtOnce.two(0, 0, 0), 2);
    }

    /** Illegal argument is named before illegal state in every call; here both would be due. */
    private static void namedFirst() {
        VectorBench x = fullBench();
        Check.refused(x, "a right call", () -> x.input(1), Check.STATE);
        for (int v : new int[] {-1, x.vectors()}) {
            refused(x, withVector(v), Check.ARGUMENT);
        }
        refused(x, ofOtherWidths(), Check.ARGUMENT);
        refused(x, ofOtherArguments(), Check.ARGUMENT);
        Check.refused(x, "set of no input", () -> x.set(COUNT, 1), Check.ARGUMENT);
    }

    /** A bench that refused calls on its way goes on just like one that never met them. */
    private static void changesNothing() {
        VectorBench plain = bench();
        VectorBench tried = bench();
        refused(tried, withVector(COUNT), Check.ARGUMENT);
        refused(tried, ofOtherWidths(), Check.ARGUMENT);
        refused(tried, ofOtherArguments(), Check.ARGUMENT);
        bothGoOn(plain, tried, 0);
        Check.refused(tried, "set of no input", () -> tried.set(COUNT, -1), Check.ARGUMENT);
        Check.fill(plain, 200);
        Check.fill(tried, 200);
        for (int kind = 5; kind < Reference.TWOS; kind++) {
            int k = kind;
            Check.refused(tried, "two " + k + " with room for 200", () -> tried.two(k, EIGHT, EIGHT), Check.STATE);
        }
        bothGoOn(plain, tried, 0xFF);
        Check.same("weight behind all", tried.weight(), plain.weight());
    }

    private static void bothGoOn(VectorBench plain, VectorBench tried, long value) {
        String before = Check.answer(() -> plain.set(EIGHT, value));
        Check.due("set behind refused calls", () -> tried.set(EIGHT, value), before);
        int next = plain.two(3, EIGHT, OTHER_EIGHT);
        Check.due("ADD behind refused calls", () -> tried.two(3, EIGHT, OTHER_EIGHT), next);
        plain.set(OTHER_EIGHT, 3);
        tried.set(OTHER_EIGHT, 3);
        Check.same("state behind refused calls", Check.state(tried), Check.state(plain));
    }
}
