/** Promises 29 to 33: rate, keep, back, count, trace. */
public final class KindsTest {
    private static final Check CHECK = new Check();

    public static void main(String[] args) {
        rate();
        trace();
        keepAndBack();
        imagesWrong();
        count();
        CHECK.end();
    }

    private static TwoPrints worn() {
        // 0: 0 2 4 6 8 10; 1: 0 3 6 9; limping 0 2 3 5 6 8 9 and 0 3 5 8 10
        TwoPrints p = Check.told("l10;w0 0 2 1;w1 0 3 1;");
        p.walks(0, 0);
        p.rains(2);
        p.walks(1, 0);
        p.walks(1, 0);
        p.rains(1);
        return p;
    }

    private static void rate() {
        TwoPrints p = worn();
        // DEPTH is 6 of 0's, 8 of 1's; 3 WALKS
        int[] onSix = {6, 14, 0, 28, 0 + 3, 9};
        int[] onSeven = {0, 0, -7, 0, -7, 3};
        int[] onNine = {0, 8, -9, 16, -9 + 2, 3};
        int[] onZero = {6, 14, 6, 28, 6 + 4, 9};
        for (int kind = 0; kind <= 5; kind++) {
            CHECK.due("29 rate(" + kind + ", 6)", p.rate(kind, 6), onSix[kind]);
            CHECK.due("29 rate(" + kind + ", 7)", p.rate(kind, 7), onSeven[kind]);
            CHECK.due("29 rate(" + kind + ", 9)", p.rate(kind, 9), onNine[kind]);
            CHECK.due("29 rate(" + kind + ", 0)", p.rate(kind, 0), onZero[kind]);
        }
        int[][] wrong = {{-1, 0}, {6, 0}, {0, -1}, {0, 11}, {5, 61}};
        for (int[] w : wrong) {
            CHECK.due("29 rate(" + w[0] + ", " + w[1] + ")", p.rate(w[0], w[1]), TwoPrints.NO);
        }
    }

    private static void trace() {
        TwoPrints p = worn();
        long[] bodies = {1, 11, 101, 1011, 10101, 100001};
        long all = 0;
        for (int kind = 0; kind <= 5; kind++) {
            CHECK.due("33 ahead of kind " + kind, p.trace(), all);
            p.rate(kind, 10);
            all += bodies[kind];
            CHECK.due("33 behind kind " + kind, p.trace(), all);
        }
        p.rate(6, 0);
        p.rate(5, 11);
        p.rate(-1, 0);
        CHECK.due("33 what is refused asks nothing", p.trace(), all);
        p.undo();
        p.keep(0);
        p.back(0);
        p.snows();
        CHECK.due("33 nothing else changes it", p.trace(), all);
        for (int i = 0; i < 300; i++) {
            p.rate(5, 0);
        }
        CHECK.due("33 it grows", p.trace(), all + 300 * 100001L);
    }

    private static void keepAndBack() {
        TwoPrints p = worn();
        p.gives(1, 4);
        p.gives(0, 9);
        p.walks(0, 0);
        p.finds(3);
        Check.types(p, "t5");
        CHECK.due("30 keep(0)", p.keep(0), 10);
        CHECK.due("30 keep changes nothing", p.now(3), 8);
        p.gives(1, 8);
        p.walks(1, 0);
        CHECK.due("30 keep(1)", p.keep(1), 10);
        CHECK.due("31 taken now", p.walker(1, 6), 1);
        p.snows();
        p.finds(4);
        CHECK.due("31 back(0)", p.back(0), 10);
        CHECK.due("31 PRINTS of 0", p.depth(0, 4), 9);
        CHECK.due("31 PRINTS of 1", p.depth(1, 9), 8);
        CHECK.due("31 WALKS of 0", p.walker(0, 3), 2);
        CHECK.due("31 WALKS of 1", p.walker(1, 3), 2);
        CHECK.due("31 GIFTS of 0", p.walker(0, 5), 0);
        CHECK.due("31 GIFTS of 1", p.gift(1, 9), 1);
        CHECK.due("31 TAKEN by 0", p.walker(0, 6), 1);
        CHECK.due("31 TAKEN by 1", p.walker(1, 6), 0);
        CHECK.due("31 nothing to undo", p.now(3), 0);
        CHECK.due("31 undo", p.undo(), TwoPrints.STATE);
        CHECK.due("31 FOUND is no part of it", p.count(4), 2);
        CHECK.due("31 nor is THE TEXT", p.count(5), 2);
        CHECK.due("31 back(1)", p.back(1), 10);
        CHECK.due("31 GIFTS of 0", p.gift(0, 8), 1);
        CHECK.due("31 TAKEN by 1", p.walker(1, 6), 1);
        p.rains(9);
        CHECK.due("31 an image stays as it was", p.back(1), 10);
        CHECK.due("30 kept anew", p.keep(0), 10);
        p.snows();
        CHECK.due("30 kept anew", p.keep(0), 0);
        p.walks(0, 0);
        CHECK.due("31 the later one", p.back(0), 0);
        p.walks(0, 0);
        CHECK.due("31 it can be undone behind that", p.undo(), 0);
    }

    private static void imagesWrong() {
        TwoPrints p = worn();
        CHECK.due("30 keep(-1)", p.keep(-1), TwoPrints.BAD);
        CHECK.due("30 keep(2)", p.keep(2), TwoPrints.BAD);
        CHECK.due("31 back(-1)", p.back(-1), TwoPrints.BAD);
        CHECK.due("31 back(2)", p.back(2), TwoPrints.BAD);
        CHECK.due("31 none was kept", p.back(0), TwoPrints.STATE);
        p.keep(1);
        CHECK.due("31 the other one was kept", p.back(0), TwoPrints.STATE);
        CHECK.due("31 refused: all may be undone still", p.now(3), 5);
    }

    private static void count() {
        TwoPrints p = Check.told("l10;b7;p8;t6;");
        p.finds(0);
        Check.types(p, "b 1");
        int[] due = {10, 7, 8, 6, 1, 3};
        for (int what = 0; what < due.length; what++) {
            CHECK.due("32 count(" + what + ")", p.count(what), due[what]);
        }
        CHECK.due("32 count(-1)", p.count(-1), TwoPrints.BAD);
        CHECK.due("32 count(6)", p.count(6), TwoPrints.BAD);
    }
}
