import java.lang.reflect.Method;
import java.util.Arrays;
import java.util.function.Supplier;

/**
 * "BAD (a number is not as told, or there is no such thing)": for each number of each call the last that may be and
 * the first that may not, on either side; and what is refused changes nothing. From promise 2 to promise 32.
 */
public final class BoundsTest {
    private static final Check CHECK = new Check();
    /** Stands for the path's LENGTH. */
    private static final int LENGTH = -77;
    private static final int NO_END = Integer.MAX_VALUE;

    private static final class Call {
        final int promise;
        final String name;
        /** For each number the lowest and the highest that may be. */
        final int[] bounds;

        Call(int promise, String name, int... bounds) {
            this.promise = promise;
            this.name = name;
            this.bounds = bounds;
        }
    }

    private static final Call[] CALLS = {
        new Call(2, "type", 0, 255),
        new Call(5, "walker", 0, 1, 0, 6),
        new Call(6, "depth", 0, 1, 0, LENGTH),
        new Call(7, "gift", 0, 1, 0, LENGTH),
        new Call(8, "now", 0, 3),
        new Call(9, "walks", 0, 1, 0, 1),
        new Call(10, "gives", 0, 1, 0, LENGTH),
        new Call(11, "rains", 1, 9),
        new Call(13, "cows", 0, LENGTH),
        new Call(14, "fills", 0, 1, 0, LENGTH),
        new Call(16, "whose", 0, LENGTH),
        new Call(17, "both", -1, NO_END),
        new Call(18, "tells", 0, 3, 0, 3),
        new Call(19, "left", 0, 1, 0, 9),
        new Call(20, "jumps", 0, 60, 0, 1),
        new Call(21, "child", 0, 60, -2, NO_END),
        new Call(22, "go", 0, 1, 0, 99, 0, 199, 0, 2),
        new Call(23, "odds", 0, 1, 0, 10, 0, 6, 0, 1),
        new Call(24, "onePath", 0, 10, 0, 5, 0, 1),
        new Call(25, "finds", 0, LENGTH),
        new Call(28, "strangers", 0, 1),
        new Call(29, "rate", 0, 5, 0, LENGTH),
        new Call(30, "keep", 0, 1),
        new Call(31, "back", 0, 1),
        new Call(32, "count", 0, 5),
    };

    public static void main(String[] args) {
        on("a new object", Made::anew);
        on("the shortest path", () -> Made.worn(5));
        on("a path of 17", () -> Made.worn(17));
        on("the longest path", () -> Made.worn(60));
        on("a full object", Made::full);
        noBounds();
        CHECK.end();
    }

    private static void on(String where, Supplier<TwoPrints> making) {
        int length = making.get().count(0);
        for (Call call : CALLS) {
            int[] bounds = Arrays.stream(call.bounds).map(bound -> bound == LENGTH ? length : bound).toArray();
            String what = call.promise + " on " + where + ": ";
            within(what, call, bounds, making);
            beyond(what, call, bounds, making.get());
            Whole.same(CHECK, what + call.name + " with wrong numbers changes nothing", () -> {
                TwoPrints p = making.get();
                beyond(what, call, bounds, p);
                return p;
            }, making);
        }
    }

    private static int bad(Call call) {
        return call.name.equals("rate") ? TwoPrints.NO : TwoPrints.BAD;
    }

    /** Each number at either end, the others at either end. */
    private static void within(String what, Call call, int[] bounds, Supplier<TwoPrints> making) {
        int numbers = bounds.length / 2;
        for (int ends = 0; ends < 1 << numbers; ends++) {
            int[] arguments = ends(bounds, ends);
            CHECK.holds(what + call.name + Arrays.toString(arguments) + " is not refused as BAD",
                answer(making.get(), call.name, arguments) != bad(call));
        }
    }

    /** One number just beyond, or far beyond, either end, the others as they may be; then all of them beyond. */
    private static void beyond(String what, Call call, int[] bounds, TwoPrints p) {
        int numbers = bounds.length / 2;
        for (int i = 0; i < numbers; i++) {
            for (int wrong : wrongNumbers(bounds[2 * i], bounds[2 * i + 1])) {
                isBad(what, call, p, with(ends(bounds, 0), i, wrong));
                isBad(what, call, p, with(ends(bounds, -1), i, wrong));
            }
        }
        int[] all = new int[numbers];
        for (int i = 0; i < numbers; i++) {
            all[i] = bounds[2 * i] - 1;
        }
        isBad(what, call, p, all);
    }

    private static void isBad(String what, Call call, TwoPrints p, int[] arguments) {
        CHECK.due(what + call.name + Arrays.toString(arguments), answer(p, call.name, arguments), bad(call));
    }

    private static int[] wrongNumbers(int lowest, int highest) {
        if (highest == NO_END) {
            return new int[] {lowest - 1, Integer.MIN_VALUE};
        }
        return new int[] {lowest - 1, Integer.MIN_VALUE, highest + 1, Integer.MAX_VALUE};
    }

    /** The i-th number is the highest that may be, if the i-th bit is set, else the lowest. */
    private static int[] ends(int[] bounds, int bits) {
        int[] arguments = new int[bounds.length / 2];
        for (int i = 0; i < arguments.length; i++) {
            arguments[i] = bounds[2 * i + (bits >> i & 1)];
        }
        return arguments;
    }

    private static int[] with(int[] arguments, int place, int number) {
        arguments[place] = number;
        return arguments;
    }

    private static int answer(TwoPrints p, String name, int... arguments) {
        try {
            Class<?>[] types = new Class<?>[arguments.length];
            Arrays.fill(types, int.class);
            Method method = TwoPrints.class.getMethod(name, types);
            return (int) method.invoke(p, Arrays.stream(arguments).boxed().toArray());
        } catch (ReflectiveOperationException thrown) {
            throw new IllegalStateException(name + Arrays.toString(arguments), thrown);
        }
    }

    /** Where the document names one bound alone, the other side has none. */
    private static void noBounds() {
        TwoPrints p = Made.worn(10);
        CHECK.due("17 the last number there is", p.both(Integer.MAX_VALUE), TwoPrints.NONE);
        CHECK.due("21 the last number there is", p.child(60, Integer.MAX_VALUE), -5);
        CHECK.due("21 the last number there is, no way", p.child(0, Integer.MAX_VALUE), TwoPrints.NONE);
    }
}
