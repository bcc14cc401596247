import java.util.Objects;

/** Counts and prints the answers that are not as due; the tests' own helper, no test by itself. */
final class Check {
    interface Call {
        long run();
    }

    static final String ARGUMENT = "throws.IllegalArgumentException";
    static final String STATE = "throws.IllegalStateException";
    static final int MOST_WEIGHT = 100000;

    private static int wrong = 0;

    private Check() {
    }

    /** One sentence of the document with the test of its own, so that what fails names what is broken. */
    static void sentence(String words, Runnable test) {
        int before = wrong;
        try {
            test.run();
        } catch (RuntimeException e) {
            wrong++;
            System.out.println("the test itself was stopped by " + e);
        }
        if (wrong > before) {
            System.out.println("NOT HELD: " + words);
        }
    }

    /** What a call answers, as the issues write it. */
    static String answer(Call call) {
        try {
            return Long.toString(call.run());
        } catch (RuntimeException e) {
            String name = "throws." + e.getClass().getSimpleName();
            return thrownByTheClass(e) ? name : name + " of the machine or the library";
        }
    }

    /** An exception of the right name that Arrays or the machine threw would be right by luck alone. */
    private static boolean thrownByTheClass(RuntimeException e) {
        StackTraceElement[] trace = e.getStackTrace();
        return trace.length > 0 && trace[0].getClassName().startsWith("VectorBench");
    }

    static void due(String what, Call call, Object want) {
        same(what, answer(call), want.toString());
    }

    static void same(String what, Object got, Object want) {
        if (!Objects.equals(got, want)) {
            wrong++;
            if (wrong <= 50) {
                System.out.println(what + " answered " + got + ", due is " + want);
            }
        }
    }

    /** The call throws so, and neither the number of vectors nor their weight nor a value changes. */
    static void refused(VectorBench x, String what, Call call, String want) {
        String before = state(x);
        due(what, call, want);
        same("the state behind " + what, state(x), before);
    }

    static String state(VectorBench x) {
        StringBuilder text = new StringBuilder();
        text.append(x.vectors()).append(' ').append(x.weight());
        for (int v = 0; v < x.vectors(); v++) {
            text.append(' ').append(x.width(v)).append(':').append(x.value(v));
        }
        return text.toString();
    }

    /** Numbers that no vector of the bench has. */
    static int[] noVectors(VectorBench x) {
        int next = x.vectors();
        return new int[] {-1, next, next + 1, -next - 1, 3999, 4000, 4001, Integer.MAX_VALUE, Integer.MIN_VALUE};
    }

    /** An object that weighs 100000 less so much; its vector 0 is an input of width 8. */
    static VectorBench withRoom(int room) {
        VectorBench x = new VectorBench();
        x.input(8);
        fill(x, room);
        return x;
    }

    static void fill(VectorBench x, int room) {
        int big = x.constant(64, 0);
        while (MOST_WEIGHT - x.weight() - room >= 1920) {
            x.two(10, big, big);
        }
        while (MOST_WEIGHT - x.weight() - room > 0) {
            x.constant(Math.min(64, MOST_WEIGHT - x.weight() - room), 0);
        }
    }

    static void end() {
        System.out.println(wrong == 0 ? "all answers are as due" : wrong + " answers are not as due");
        System.exit(wrong == 0 ? 0 : 1);
    }
}
