/** Promises 9 to 15: walks, gives, rains, snows, cows, fills, undo. */
public final class DoneTest {
    private static final Check CHECK = new Check();

    public static void main(String[] args) {
        walks();
        walksTakes();
        gives();
        rains();
        snows();
        cows();
        fills();
        undoEach();
        undoIsARing();
        refusedIsNotUndone();
        upToTheMost();
        CHECK.end();
    }

    private static void prints(String what, TwoPrints p, int k, String depths) {
        for (int x = 0; x < depths.length(); x++) {
            CHECK.due(what + " depth(" + k + ", " + x + ")", p.depth(k, x), depths.charAt(x) - '0');
        }
    }

    private static void walks() {
        TwoPrints p = Check.told("l10;w0 1 3 2;w1 0 2 5;");
        CHECK.due("9 walks(0, 0)", p.walks(0, 0), 4);
        prints("9", p, 0, "09009009009");
        prints("9", p, 1, "00000000000");
        CHECK.due("9 walks(1, 1)", p.walks(1, 1), 7);
        prints("9 limping", p, 1, "90990990990");
        CHECK.due("9 walks(0, 1)", p.walks(0, 1), 4);
        prints("9 limping", p, 0, "09009099099");
        p.rains(5);
        p.walks(0, 0);
        prints("9 deep again, others as they were", p, 0, "09009049049");
        CHECK.due("9 WALKS", p.walker(0, 3), 3);
        CHECK.due("9 WALKS", p.walker(1, 3), 1);
        int[][] wrong = {{-1, 0}, {2, 0}, {0, -1}, {0, 2}};
        for (int[] w : wrong) {
            CHECK.due("9 walks(" + w[0] + ", " + w[1] + ")", p.walks(w[0], w[1]), TwoPrints.BAD);
        }
        TwoPrints behind = Check.told("l5;w0 9 2 1;");
        CHECK.due("9 a START behind the end", behind.walks(0, 0), 0);
        CHECK.due("9 a walk all the same", behind.walker(0, 3), 1);
        CHECK.due("9 the last foot is trodden on", Check.told("l60;w0 0 5 1;").walks(0, 0), 13);
        CHECK.due("9 limping by 2, 1", Check.told("l60;w0 0 2 1;").walks(0, 1), 41);
    }

    private static void walksTakes() {
        TwoPrints p = Check.told("l10;w0 0 4 1;w1 0 2 1;");
        p.walks(1, 0);
        p.gives(0, 2);
        p.gives(0, 3);
        p.gives(0, 4);
        p.gives(0, 10);
        CHECK.due("9 they lie for 1", p.walker(1, 5), 3);
        p.walks(0, 0);
        CHECK.due("9 0 takes nothing of 1's", p.walker(1, 5), 3);
        CHECK.due("9 0 took nothing", p.walker(0, 6), 0);
        // 0 2 3 5 6 8 9
        p.walks(1, 1);
        CHECK.due("9 limping he takes what is on that track", p.walker(1, 6), 1);
        CHECK.due("9 gift(1, 2)", p.gift(1, 2), 0);
        CHECK.due("9 gift(1, 4)", p.gift(1, 4), 1);
        p.rains(9);
        CHECK.due("9 gifts stay in rain", p.walker(1, 5), 2);
        p.walks(1, 0);
        CHECK.due("9 and are taken then", p.walker(1, 6), 3);
        CHECK.due("9 none lies there", p.walker(1, 5), 0);
        p.walks(1, 0);
        CHECK.due("9 taken once", p.walker(1, 6), 3);
    }

    private static void gives() {
        TwoPrints p = Check.told("l10;w0 0 2 1;w1 0 3 1;");
        p.walks(0, 0);
        CHECK.due("10 no print of the other one", p.gives(0, 2), TwoPrints.STATE);
        CHECK.due("10 gives(1, 2)", p.gives(1, 2), 1);
        CHECK.due("10 one lies there", p.gives(1, 2), TwoPrints.STATE);
        CHECK.due("10 gives(1, 10)", p.gives(1, 10), 2);
        CHECK.due("10 no print", p.gives(1, 3), TwoPrints.STATE);
        p.walks(1, 0);
        CHECK.due("10 gives(0, 0)", p.gives(0, 0), 1);
        CHECK.due("10 gives(1, 0), one for each", p.gives(1, 0), 3);
        CHECK.due("10 for 1", p.gift(1, 0), 1);
        CHECK.due("10 for 0", p.gift(0, 10), 1);
        p.rains(9);
        CHECK.due("10 the print is gone, the gift lies", p.gives(1, 4), TwoPrints.STATE);
        int[][] wrong = {{-1, 0}, {2, 0}, {0, -1}, {0, 11}, {1, 11}};
        for (int[] w : wrong) {
            CHECK.due("10 gives(" + w[0] + ", " + w[1] + ")", p.gives(w[0], w[1]), TwoPrints.BAD);
        }
        CHECK.due("10 nothing changed", p.walker(0, 5), 3);
    }

    private static void rains() {
        TwoPrints p = Check.told("l6;w0 0 2 1;w1 0 3 1;");
        p.walks(0, 0);
        CHECK.due("11 rains(5)", p.rains(5), 4);
        p.walks(1, 0);
        CHECK.due("11 rains(3)", p.rains(3), 7);
        prints("11", p, 0, "1010101");
        prints("11", p, 1, "6006006");
        CHECK.due("11 rains(2)", p.rains(2), 3);
        prints("11", p, 0, "0000000");
        prints("11", p, 1, "4004004");
        CHECK.due("11 rains(0)", p.rains(0), TwoPrints.BAD);
        CHECK.due("11 rains(10)", p.rains(10), TwoPrints.BAD);
        CHECK.due("11 rains(-1)", p.rains(-1), TwoPrints.BAD);
        CHECK.due("11 rains(9)", p.rains(9), 0);
        CHECK.due("11 WALKS stay", p.walker(0, 3), 1);
    }

    private static void snows() {
        TwoPrints p = Check.told("l6;w0 0 2 1;w1 0 3 1;");
        CHECK.due("12 on nothing", p.snows(), 0);
        p.walks(0, 0);
        p.walks(1, 0);
        p.gives(1, 2);
        p.gives(1, 4);
        p.walks(0, 0);
        p.gives(1, 2);
        p.gives(0, 3);
        CHECK.due("12 snows", p.snows(), 7);
        for (int k = 0; k < 2; k++) {
            CHECK.due("12 no walks", p.walker(k, 3), 0);
            CHECK.due("12 no prints", p.walker(k, 4), 0);
            CHECK.due("12 no gifts", p.walker(k, 5), 0);
        }
        CHECK.due("12 taken stays", p.walker(0, 6), 2);
    }

    private static void cows() {
        TwoPrints p = Check.told("l8;w0 0 2 1;w1 0 3 1;");
        p.walks(0, 0);
        p.walks(1, 0);
        p.gives(0, 3);
        p.gives(1, 4);
        p.gives(1, 6);
        CHECK.due("13 cows(2)", p.cows(2), 3);
        prints("13", p, 0, "900000909");
        prints("13", p, 1, "900000900");
        CHECK.due("13 gift(1, 3)", p.gift(1, 3), 0);
        CHECK.due("13 gift(0, 4)", p.gift(0, 4), 0);
        CHECK.due("13 gift(0, 6)", p.gift(0, 6), 1);
        CHECK.due("13 cows(3), on none", p.cows(3), 0);
        CHECK.due("13 cows(7), those there are", p.cows(7), 1);
        CHECK.due("13 cows(8)", p.cows(8), 0);
        CHECK.due("13 cows(0), the lowest", p.cows(0), 2);
        CHECK.due("13 cows(-1)", p.cows(-1), TwoPrints.BAD);
        CHECK.due("13 cows(9)", p.cows(9), TwoPrints.BAD);
        CHECK.due("13 WALKS stay", p.walker(0, 3), 1);
        TwoPrints rained = Check.told("l8;w0 0 2 1;w1 0 3 1;");
        rained.walks(0, 0);
        rained.gives(1, 4);
        rained.rains(9);
        CHECK.due("13 no print is there", rained.cows(4), 0);
        CHECK.due("13 but a gift was", rained.gift(0, 4), 0);
    }

    private static void fills() {
        TwoPrints p = Check.told("l8;w0 0 2 1;w1 0 3 1;");
        p.walks(0, 0);
        p.rains(2);
        p.walks(1, 0);
        p.gives(0, 6);
        p.gives(1, 6);
        CHECK.due("14 fills(0, 6)", p.fills(0, 6), 7);
        CHECK.due("14 the print", p.depth(0, 6), 0);
        CHECK.due("14 its gift", p.gift(0, 6), 0);
        CHECK.due("14 the other one's print", p.depth(1, 6), 9);
        CHECK.due("14 the other one's gift", p.gift(1, 6), 1);
        CHECK.due("14 no more", p.fills(0, 6), TwoPrints.STATE);
        CHECK.due("14 fills(1, 6)", p.fills(1, 6), 9);
        CHECK.due("14 none", p.fills(1, 2), TwoPrints.STATE);
        int[][] wrong = {{-1, 0}, {2, 0}, {0, -1}, {1, 9}};
        for (int[] w : wrong) {
            CHECK.due("14 fills(" + w[0] + ", " + w[1] + ")", p.fills(w[0], w[1]), TwoPrints.BAD);
        }
        TwoPrints rained = Check.told("l8;");
        rained.walks(0, 0);
        rained.gives(1, 6);
        rained.rains(9);
        CHECK.due("14 a gift without a print", rained.fills(0, 6), TwoPrints.STATE);
        CHECK.due("14 it stays", rained.gift(0, 6), 1);
    }

    private static int done(TwoPrints p, int which) {
        switch (which) {
            case 0: return p.walks(0, 1);
            case 1: return p.gives(1, 3);
            case 2: return p.rains(4);
            case 3: return p.snows();
            case 4: return p.cows(4);
            default: return p.fills(1, 4);
        }
    }

    private static void undoEach() {
        for (int which = 0; which < 6; which++) {
            TwoPrints p = Check.told("l12;w0 0 3 1;w1 0 2 1;");
            p.walks(0, 0);
            p.walks(1, 0);
            p.gives(1, 0);
            p.gives(1, 6);
            p.gives(0, 4);
            String before = Whole.undoable(p);
            CHECK.holds("15 it is not refused " + which, done(p, which) >= 0);
            CHECK.holds("15 it changes something " + which, !before.equals(Whole.undoable(p)));
            CHECK.due("15 undo " + which, p.undo(), 5);
            CHECK.holds("15 all is undone " + which, before.equals(Whole.undoable(p)));
        }
    }

    private static void undoIsARing() {
        TwoPrints p = Check.told("l12;");
        String[] states = new String[31];
        for (int i = 0; i < 30; i++) {
            states[i] = Whole.undoable(p);
            done(p, i % 4);
            CHECK.due("15 may be undone", p.now(3), Math.min(8, i + 1));
        }
        for (int n = 7; n >= 0; n--) {
            CHECK.due("15 undo", p.undo(), n);
            CHECK.holds("15 state " + n, states[22 + n].equals(Whole.undoable(p)));
        }
        CHECK.due("15 older ones are lost", p.undo(), TwoPrints.STATE);
        CHECK.holds("15 nothing changes", states[22].equals(Whole.undoable(p)));
        p.rains(1);
        CHECK.due("15 now(3) anew", p.now(3), 1);
        CHECK.due("15 undo anew", p.undo(), 0);
        CHECK.holds("15 state anew", states[22].equals(Whole.undoable(p)));
    }

    /** An object is used for 512 calls at most, so nobody but this test comes so far. */
    private static void upToTheMost() {
        TwoPrints p = Check.told("l6;");
        for (int n = 0; n < 999; n++) {
            p.walks(0, 0);
        }
        CHECK.due("9 WALKS", p.walker(0, 3), 999);
        CHECK.due("9 no more of them", p.walks(0, 0), TwoPrints.STATE);
        CHECK.due("9 BAD ahead of STATE", p.walks(0, 2), TwoPrints.BAD);
        CHECK.due("9 limping neither", p.walks(0, 1), TwoPrints.STATE);
        CHECK.due("9 the other one well", p.walks(1, 0), 3);
        p.snows();
        CHECK.due("9 behind snow again", p.walks(0, 0), 3);
        for (int n = 0; n < 3400; n++) {
            p.snows();
            p.walks(1, 0);
            p.gives(0, 0);
            p.gives(0, 3);
            p.gives(0, 6);
            p.walks(1, 0);
        }
        CHECK.due("9 TAKEN at most", p.walker(1, 6), 9999);
    }

    private static void refusedIsNotUndone() {
        TwoPrints p = Check.told("l12;");
        p.walks(0, 0);
        p.walks(2, 0);
        p.gives(0, 0);
        p.gives(0, 13);
        p.rains(0);
        p.cows(13);
        p.fills(1, 0);
        p.fills(1, 13);
        p.finds(1);
        p.keep(0);
        CHECK.due("15 only one is known", p.now(3), 1);
        CHECK.due("15 undo", p.undo(), 0);
        CHECK.due("15 the walk", p.walker(0, 4), 0);
        CHECK.due("15 what was found stays", p.count(4), 1);
        p.walks(0, 0);
        CHECK.due("15 images are not undone", p.back(0), 5);
        CHECK.due("15 nothing behind back()", p.undo(), TwoPrints.STATE);
    }
}
