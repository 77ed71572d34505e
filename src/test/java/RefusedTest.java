import java.util.function.Supplier;
import java.util.function.ToIntFunction;

/**
 * "Refused, and nothing changes, the first of these: BAD .., STATE (as told), FULL": each STATE and each FULL answers
 * as told, comes behind BAD where both would hold, and leaves all as it was. (BoundsTest does so for each BAD.)
 */
public final class RefusedTest {
    private static final Check CHECK = new Check();

    public static void main(String[] args) {
        typeFull();
        pathFault();
        walksState();
        givesState();
        fillsState();
        undoState();
        findsFull();
        backState();
        onlyAsked();
        CHECK.end();
    }

    private static void refused(String what, Supplier<TwoPrints> making, ToIntFunction<TwoPrints> call, int due) {
        CHECK.due(what, call.applyAsInt(making.get()), due);
        changesNothing(what, making, call);
    }

    private static void changesNothing(String what, Supplier<TwoPrints> making, ToIntFunction<TwoPrints> call) {
        Whole.same(CHECK, what + " changes nothing", () -> {
            TwoPrints p = making.get();
            call.applyAsInt(p);
            return p;
        }, making);
    }

    private static void typeFull() {
        refused("2 a letter more than 120", Made::full, p -> p.type('b'), TwoPrints.FULL);
        refused("2 the lowest letter", Made::full, p -> p.type(0), TwoPrints.FULL);
        refused("2 the highest letter", Made::full, p -> p.type(255), TwoPrints.FULL);
        refused("2 a blank too", Made::full, p -> p.type(' '), TwoPrints.FULL);
        refused("2 BAD ahead of FULL, below", Made::full, p -> p.type(-1), TwoPrints.BAD);
        refused("2 BAD ahead of FULL, above", Made::full, p -> p.type(256), TwoPrints.BAD);
    }

    private static TwoPrints wornWith(String text) {
        TwoPrints p = Made.worn(10);
        p.clear();
        Check.types(p, text);
        return p;
    }

    /** The fault is late in the text, so that much of it has been read by then. */
    private static void pathFault() {
        String good = "l20;w0 1 4 5;w1 2 6 7;b20;p19;t9;";
        String[] ends = {"x", "t1;", "b1;", "p1;", "l20;", "w2", "w0 10", "w0 0 1", "w0 0 2 0", "w0 0 2 1", ";", "1", "w"};
        int[] faults = {0, 0, 0, 0, 0, 1, 3, 5, 7, 8, 0, 0, 1};
        for (int i = 0; i < ends.length; i++) {
            String text = good + ends[i];
            refused("4 path of '" + text + "'", () -> wornWith(text), TwoPrints::path, -10 - good.length() - faults[i]);
        }
        refused("4 the first letter is wrong", () -> wornWith("x"), TwoPrints::path, -10);
    }

    /** An object is used for 512 calls at most, so nobody but this test comes so far. */
    private static TwoPrints walkedTo(int walks) {
        TwoPrints p = Check.told("l6;w1 1 2 3;");
        for (int i = 0; i < walks; i++) {
            p.walks(0, i % 2);
        }
        return p;
    }

    private static void walksState() {
        CHECK.due("9 the 999th walk is none too many", walkedTo(998).walks(0, 0), 3);
        Supplier<TwoPrints> making = () -> walkedTo(999);
        refused("9 WALKS are 999", making, p -> p.walks(0, 0), TwoPrints.STATE);
        refused("9 WALKS are 999, limping", making, p -> p.walks(0, 1), TwoPrints.STATE);
        refused("9 BAD ahead of STATE", making, p -> p.walks(0, 2), TwoPrints.BAD);
        refused("9 BAD ahead of STATE", making, p -> p.walks(0, -1), TwoPrints.BAD);
        TwoPrints p = making.get();
        CHECK.due("9 the other one's are not", p.walks(1, 0), 3);
        CHECK.due("9 undone", p.undo(), 7);
        CHECK.due("9 undone", p.undo(), 6);
        CHECK.due("9 then there is one more again", p.walks(0, 0), 3);
        CHECK.due("9 and it is the last", p.walks(0, 0), TwoPrints.STATE);
    }

    /** 0 has prints on 0 2 4 6 8, a gift lies for him on 2; 1 has prints on 0 3 6 9. */
    private static TwoPrints bothWalked() {
        TwoPrints p = Check.told("l9;w0 0 2 1;w1 0 3 1;");
        p.walks(0, 0);
        p.walks(1, 0);
        p.gives(1, 2);
        return p;
    }

    /** There are no prints; a gift still lies for 0 on 2. */
    private static TwoPrints rained() {
        TwoPrints p = bothWalked();
        p.rains(9);
        return p;
    }

    private static void givesState() {
        Supplier<TwoPrints> making = RefusedTest::bothWalked;
        refused("10 no PRINT at all", making, p -> p.gives(0, 1), TwoPrints.STATE);
        refused("10 only his own PRINT", making, p -> p.gives(0, 2), TwoPrints.STATE);
        refused("10 only his own PRINT", making, p -> p.gives(1, 9), TwoPrints.STATE);
        refused("10 a GIFT lies there", making, p -> p.gives(1, 2), TwoPrints.STATE);
        refused("10 the PRINT is rained away, a GIFT lies there", RefusedTest::rained, p -> p.gives(1, 2), TwoPrints.STATE);
        refused("10 the PRINT is rained away", RefusedTest::rained, p -> p.gives(1, 4), TwoPrints.STATE);
        refused("10 nobody walked", Made::anew, p -> p.gives(0, 0), TwoPrints.STATE);
        refused("10 BAD ahead of STATE: the foot", Made::anew, p -> p.gives(0, 31), TwoPrints.BAD);
        refused("10 BAD ahead of STATE: the foot", Made::anew, p -> p.gives(1, -1), TwoPrints.BAD);
        refused("10 BAD ahead of STATE: the walker", Made::anew, p -> p.gives(2, 0), TwoPrints.BAD);
        refused("10 BAD ahead of STATE: the walker", making, p -> p.gives(-1, 2), TwoPrints.BAD);
    }

    private static void fillsState() {
        Supplier<TwoPrints> making = RefusedTest::bothWalked;
        refused("14 no PRINT at all", making, p -> p.fills(0, 1), TwoPrints.STATE);
        refused("14 only the other one's PRINT", making, p -> p.fills(1, 2), TwoPrints.STATE);
        refused("14 only the other one's PRINT", making, p -> p.fills(0, 9), TwoPrints.STATE);
        refused("14 a GIFT without a PRINT", RefusedTest::rained, p -> p.fills(0, 2), TwoPrints.STATE);
        refused("14 nobody walked", Made::anew, p -> p.fills(0, 0), TwoPrints.STATE);
        refused("14 BAD ahead of STATE: the foot", Made::anew, p -> p.fills(0, 31), TwoPrints.BAD);
        refused("14 BAD ahead of STATE: the foot", Made::anew, p -> p.fills(1, -1), TwoPrints.BAD);
        refused("14 BAD ahead of STATE: the walker", Made::anew, p -> p.fills(2, 0), TwoPrints.BAD);
        refused("14 BAD ahead of STATE: the walker", making, p -> p.fills(-1, 1), TwoPrints.BAD);
    }

    private static TwoPrints allUndone() {
        TwoPrints p = Made.full();
        for (int i = 0; i < 8; i++) {
            p.undo();
        }
        return p;
    }

    private static TwoPrints broughtBack() {
        TwoPrints p = Made.full();
        p.back(1);
        return p;
    }

    private static TwoPrints readAnew() {
        TwoPrints p = Made.full();
        p.path();
        return p;
    }

    private static void undoState() {
        refused("15 nothing was done", Made::anew, TwoPrints::undo, TwoPrints.STATE);
        refused("15 all that is known was undone", RefusedTest::allUndone, TwoPrints::undo, TwoPrints.STATE);
        refused("15 behind back()", RefusedTest::broughtBack, TwoPrints::undo, TwoPrints.STATE);
        refused("15 behind path()", RefusedTest::readAnew, TwoPrints::undo, TwoPrints.STATE);
    }

    private static void findsFull() {
        refused("25 a seventh foot", Made::full, p -> p.finds(1), TwoPrints.FULL);
        refused("25 a seventh time the same", Made::full, p -> p.finds(0), TwoPrints.FULL);
        refused("25 the last foot", Made::full, p -> p.finds(10), TwoPrints.FULL);
        refused("25 BAD ahead of FULL, above", Made::full, p -> p.finds(11), TwoPrints.BAD);
        refused("25 BAD ahead of FULL, below", Made::full, p -> p.finds(-1), TwoPrints.BAD);
    }

    private static TwoPrints oneKept() {
        TwoPrints p = bothWalked();
        p.keep(1);
        return p;
    }

    private static void backState() {
        refused("31 none was kept", Made::anew, p -> p.back(0), TwoPrints.STATE);
        refused("31 none was kept", Made::anew, p -> p.back(1), TwoPrints.STATE);
        refused("31 the other one was kept", RefusedTest::oneKept, p -> p.back(0), TwoPrints.STATE);
        refused("31 gone, as the text was read anew", RefusedTest::readAnew, p -> p.back(0), TwoPrints.STATE);
        refused("31 gone, as the text was read anew", RefusedTest::readAnew, p -> p.back(1), TwoPrints.STATE);
        refused("31 BAD ahead of STATE, above", Made::anew, p -> p.back(2), TwoPrints.BAD);
        refused("31 BAD ahead of STATE, below", Made::anew, p -> p.back(-1), TwoPrints.BAD);
    }

    /** "As things are NOW; nothing is changed": what is asked, with the numbers at their ends. */
    private static void onlyAsked() {
        Supplier<TwoPrints> making = () -> Made.worn(10);
        changesNothing("5 walker", making, p -> p.walker(0, 6) + p.walker(1, 0));
        changesNothing("6 depth", making, p -> p.depth(0, 0) + p.depth(1, 10));
        changesNothing("7 gift", making, p -> p.gift(0, 0) + p.gift(1, 10));
        changesNothing("8 now", making, p -> p.now(0) + p.now(1) + p.now(2) + p.now(3));
        changesNothing("16 whose", making, p -> p.whose(0) + p.whose(10));
        changesNothing("17 both", making, p -> p.both(-1) + p.both(0) + p.both(99));
        changesNothing("18 tells", making, p -> p.tells(0, 3) + p.tells(3, 0));
        changesNothing("19 left", making, p -> p.left(0, 0) + p.left(1, 9));
        changesNothing("20 jumps", making, p -> p.jumps(0, 0) + p.jumps(60, 1));
        changesNothing("21 child", making, p -> p.child(60, -2) + p.child(60, -1) + p.child(2, 0) + p.child(0, 9));
        changesNothing("22 go", making, p -> p.go(0, 99, 199, 0) + p.go(1, 0, 0, 2));
        changesNothing("23 odds", making, p -> p.odds(0, 10, 6, 0) + p.odds(1, 0, 0, 1));
        changesNothing("24 onePath", making, p -> p.onePath(10, 5, 0) + p.onePath(0, 0, 1));
        changesNothing("27 who", making, TwoPrints::who);
        changesNothing("28 strangers", making, p -> p.strangers(0) + p.strangers(1));
        changesNothing("32 count", making, p -> p.count(0) + p.count(5));
        changesNothing("33 trace", making, p -> (int) p.trace());
    }
}
