import java.util.function.Consumer;

/** "UNDONE: the latest walks(), gives(), rains(), snows(), cows(), fills() that was not refused (8 are known ..)". */
public final class UndoEdgesTest {
    private static final Check CHECK = new Check();

    public static void main(String[] args) {
        oneToTwenty();
        eachKindWithoutEffect();
        eachKindBringsAllBack();
        undoneAndDoneByTurns();
        noneIsKnown();
        othersAreNotUndone();
        undoIsNotUndone();
        CHECK.end();
    }

    /** Which of them was undone is told by WALKS. */
    private static TwoPrints walked(int many) {
        TwoPrints p = Check.told("l5;");
        for (int i = 0; i < many; i++) {
            p.walks(0, 0);
        }
        return p;
    }

    /** "8 are known, older ones are lost": none, 7, 8, 9, and round the ring more than once. */
    private static void oneToTwenty() {
        for (int many = 0; many <= 20; many++) {
            TwoPrints p = walked(many);
            int known = Math.min(8, many);
            CHECK.due("8 of " + many + " may be undone", p.now(3), known);
            for (int i = 1; i <= known; i++) {
                CHECK.due("15 of " + many + " more may be", p.undo(), known - i);
                CHECK.due("15 WALKS", p.walker(0, 3), many - i);
                CHECK.due("8 as many", p.now(3), known - i);
            }
            CHECK.due("15 of " + many + " no more", p.undo(), TwoPrints.STATE);
            CHECK.due("15 older ones are lost", p.walker(0, 3), many - known);
            CHECK.due("8 none", p.now(3), 0);
        }
    }

    /** What is not refused is known, though it changed nothing. */
    private static void eachKindWithoutEffect() {
        TwoPrints p = Check.told("l5;w0 9 2 1;w1 0 2 1;");
        String[] due = new String[5];
        due[0] = Whole.undoable(p);
        CHECK.due("11 rain on nothing", p.rains(9), 0);
        due[1] = Whole.undoable(p);
        CHECK.due("12 snow on nothing", p.snows(), 0);
        due[2] = Whole.undoable(p);
        CHECK.due("13 cows on nothing", p.cows(5), 0);
        due[3] = Whole.undoable(p);
        CHECK.due("9 a walk without feet", p.walks(0, 0), 0);
        due[4] = Whole.undoable(p);
        CHECK.due("9 a walk more", p.walks(0, 1), 0);
        for (int i = 4; i >= 0; i--) {
            CHECK.due("15 undo", p.undo(), i);
            CHECK.holds("15 all as before " + i, due[i].equals(Whole.undoable(p)));
        }
    }

    private static TwoPrints rich() {
        TwoPrints p = Check.told("l12;w0 0 3 1;w1 0 2 1;");
        p.walks(0, 0);
        p.walks(1, 0);
        p.gives(1, 0);
        p.gives(1, 12);
        p.gives(0, 0);
        p.gives(0, 12);
        return p;
    }

    private static void undone(String what, Consumer<TwoPrints> done) {
        TwoPrints p = rich();
        String before = Whole.undoable(p);
        done.accept(p);
        CHECK.holds("15 " + what + " changes something", !before.equals(Whole.undoable(p)));
        CHECK.due("15 " + what + " is known", p.now(3), 7);
        CHECK.due("15 " + what + " is undone", p.undo(), 6);
        CHECK.holds("15 " + what + ": all as before", before.equals(Whole.undoable(p)));
        Whole.same(CHECK, "15 " + what + " leaves nothing behind", () -> {
            TwoPrints again = rich();
            done.accept(again);
            again.undo();
            return again;
        }, UndoEdgesTest::rich);
    }

    private static void eachKindBringsAllBack() {
        undone("a walk", p -> p.walks(0, 0));
        undone("a walk of the other one", p -> p.walks(1, 0));
        undone("a limping walk", p -> p.walks(1, 1));
        undone("a gift on the last PRINT but one", p -> p.gives(1, 9));
        undone("a gift for the other one", p -> p.gives(0, 10));
        undone("the least rain", p -> p.rains(1));
        undone("the most rain", p -> p.rains(9));
        undone("snow", TwoPrints::snows);
        undone("cows on the first foot", p -> p.cows(0));
        undone("cows on the last foot", p -> p.cows(12));
        undone("the first PRINT filled", p -> p.fills(0, 0));
        undone("the last PRINT filled", p -> p.fills(1, 12));
    }

    /** The ring goes round and round, a way back each time. */
    private static void undoneAndDoneByTurns() {
        TwoPrints p = walked(8);
        int walks = 8;
        int known = 8;
        for (int back = 1; back <= 8; back++) {
            for (int i = 0; i < back; i++) {
                walks--;
                known--;
                CHECK.due("15 back by " + back, p.undo(), known);
                CHECK.due("15 WALKS", p.walker(0, 3), walks);
            }
            for (int i = 0; i <= back; i++) {
                p.walks(0, 0);
                walks++;
                known = Math.min(8, known + 1);
                CHECK.due("15 on by " + (back + 1), p.now(3), known);
                CHECK.due("15 WALKS", p.walker(0, 3), walks);
            }
        }
        for (int i = 7; i >= 0; i--) {
            walks--;
            CHECK.due("15 all the way back", p.undo(), i);
            CHECK.due("15 WALKS", p.walker(0, 3), walks);
        }
        CHECK.due("15 no further", p.undo(), TwoPrints.STATE);
        CHECK.due("15 the last of them on: one is known", p.walks(0, 0), 2);
        CHECK.due("15 undone", p.undo(), 0);
        CHECK.due("15 older ones don't come again", p.undo(), TwoPrints.STATE);
        CHECK.due("15 WALKS", p.walker(0, 3), walks);
    }

    private static void noneIsKnown() {
        CHECK.due("15 a new object", new TwoPrints().undo(), TwoPrints.STATE);
        TwoPrints p = walked(9);
        p.keep(0);
        p.back(0);
        CHECK.due("15 behind back()", p.undo(), TwoPrints.STATE);
        CHECK.due("8 behind back()", p.now(3), 0);
        p.rains(1);
        CHECK.due("8 one behind back()", p.now(3), 1);
        CHECK.due("15 it is undone", p.undo(), 0);
        CHECK.due("15 what was before back() is not", p.undo(), TwoPrints.STATE);
        p.walks(0, 0);
        p.path();
        CHECK.due("8 behind path()", p.now(3), 0);
        CHECK.due("15 behind path()", p.undo(), TwoPrints.STATE);
        CHECK.due("15 no WALKS come again", p.walker(0, 3), 0);
    }

    /** Only six calls are known; those that were refused, and all others, are not. */
    private static void othersAreNotUndone() {
        TwoPrints p = walked(1);
        p.walks(2, 0);
        p.walks(0, 2);
        p.gives(0, 0);
        p.gives(0, 6);
        p.rains(0);
        p.rains(10);
        p.cows(6);
        p.cows(-1);
        p.fills(1, 0);
        p.fills(0, 6);
        p.back(1);
        p.back(2);
        p.keep(0);
        p.finds(3);
        p.finds(6);
        p.rate(5, 0);
        p.type('b');
        CHECK.due("4 a fault", p.path(), -11);
        CHECK.due("8 the walk alone", p.now(3), 1);
        CHECK.due("15 the walk", p.undo(), 0);
        CHECK.due("15 no WALKS", p.walker(0, 3), 0);
        CHECK.due("15 FOUND is not undone", p.count(4), 1);
        CHECK.due("15 THE TEXT is not undone", p.count(5), 1);
        CHECK.due("15 THE TRACE is not undone", p.trace(), 100001);
        CHECK.due("15 the image is not undone", p.back(0), 2);
        p.rains(1);
        p.forget();
        p.clear();
        p.undo();
        CHECK.due("15 forget() is not undone", p.count(4), 0);
        CHECK.due("15 clear() is not undone", p.count(5), 0);
    }

    private static void undoIsNotUndone() {
        TwoPrints p = walked(3);
        CHECK.due("15 undo", p.undo(), 2);
        CHECK.due("15 undo goes on, it does not come back", p.undo(), 1);
        CHECK.due("15 WALKS", p.walker(0, 3), 1);
        CHECK.due("15 undo", p.undo(), 0);
        CHECK.due("15 undo", p.undo(), TwoPrints.STATE);
        CHECK.due("15 WALKS", p.walker(0, 3), 0);
    }
}
