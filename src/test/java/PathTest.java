/** Promises 1 to 8: a new object; type, clear, path, walker, depth, gift, now. */
public final class PathTest {
    private static final Check CHECK = new Check();

    public static void main(String[] args) {
        newObject();
        type();
        clear();
        pathTells();
        pathFaults();
        pathIsAnew();
        pathFaultChangesNothing();
        walker();
        depthAndGift();
        now();
        CHECK.end();
    }

    private static void newObject() {
        TwoPrints p = new TwoPrints();
        int[] counts = {30, 0, 0, 2, 0, 0};
        for (int what = 0; what < counts.length; what++) {
            CHECK.due("1 count(" + what + ")", p.count(what), counts[what]);
        }
        int[] walker = {0, 3, 3, 0, 0, 0, 0};
        for (int k = 0; k < 2; k++) {
            for (int what = 0; what < walker.length; what++) {
                CHECK.due("1 walker(" + k + ", " + what + ")", p.walker(k, what), walker[what]);
            }
            for (int x = 0; x <= 30; x++) {
                CHECK.due("1 depth", p.depth(k, x), 0);
                CHECK.due("1 gift", p.gift(k, x), 0);
            }
        }
        CHECK.due("1 now(0)", p.now(0), 0);
        CHECK.due("1 now(1)", p.now(1), 0);
        CHECK.due("1 now(2)", p.now(2), TwoPrints.NONE);
        CHECK.due("1 now(3)", p.now(3), 0);
        CHECK.due("1 who", p.who(), 15);
        CHECK.due("1 trace", p.trace(), 0);
        CHECK.due("1 back(0)", p.back(0), TwoPrints.STATE);
        CHECK.due("1 back(1)", p.back(1), TwoPrints.STATE);
        CHECK.due("1 undo", p.undo(), TwoPrints.STATE);
    }

    private static void type() {
        TwoPrints p = new TwoPrints();
        CHECK.due("2 type(-1)", p.type(-1), TwoPrints.BAD);
        CHECK.due("2 type(256)", p.type(256), TwoPrints.BAD);
        CHECK.due("2 type least int", p.type(Integer.MIN_VALUE), TwoPrints.BAD);
        CHECK.due("2 type(0)", p.type(0), 1);
        CHECK.due("2 type(255)", p.type(255), 2);
        for (int n = 3; n <= 120; n++) {
            CHECK.due("2 type, the " + n + "th", p.type(32), n);
        }
        CHECK.due("2 type, the 121st", p.type(32), TwoPrints.FULL);
        CHECK.due("2 BAD ahead of FULL", p.type(256), TwoPrints.BAD);
        CHECK.due("2 it stays at 120", p.count(5), 120);
        CHECK.due("2 clear", p.clear(), 120);
        CHECK.due("2 type behind clear", p.type(32), 1);
    }

    private static void clear() {
        TwoPrints p = new TwoPrints();
        CHECK.due("3 clear of nothing", p.clear(), 0);
        Check.types(p, "t1;x");
        CHECK.due("3 clear", p.clear(), 4);
        CHECK.due("3 empty then", p.count(5), 0);
        CHECK.due("3 path of nothing", p.path(), 0);
        CHECK.due("3 turn as at first", p.count(3), 2);
    }

    private static void pathTells() {
        TwoPrints p = new TwoPrints();
        Check.types(p, "  l 60;w1 9 9 9 ; w 0 1 2 1;b60;p 59;t9;w0 2 4 5;   ");
        CHECK.due("4 path", p.path(), 7);
        CHECK.due("4 the text is empty", p.count(5), 0);
        int[] counts = {60, 60, 59, 9};
        for (int what = 0; what < counts.length; what++) {
            CHECK.due("4 count(" + what + ")", p.count(what), counts[what]);
        }
        int[][] walkers = {{2, 4, 5}, {9, 9, 9}};
        for (int k = 0; k < 2; k++) {
            for (int what = 0; what < 3; what++) {
                CHECK.due("4 walker(" + k + ", " + what + ")", p.walker(k, what), walkers[k][what]);
            }
        }
        CHECK.due("4 what is not told is as at first", p.path(), 0);
        CHECK.due("4 LENGTH", p.count(0), 30);
        CHECK.due("4 BEECH", p.count(1), 0);
        CHECK.due("4 PLANK", p.count(2), 0);
        CHECK.due("4 TURN", p.count(3), 2);
        CHECK.due("4 STRIDE", p.walker(1, 1), 3);
        CHECK.due("4 and so again", p.path(), 0);
        for (int what = 0; what < 4; what++) {
            CHECK.due("4 again count(" + what + ")", p.count(what), new TwoPrints().count(what));
        }
        for (int k = 0; k < 2; k++) {
            for (int what = 0; what < 3; what++) {
                CHECK.due("4 again walker(" + k + ", " + what + ")", p.walker(k, what), what == 0 ? 0 : 3);
            }
        }
        CHECK.due("4 again TRACKS", p.both(10), 30);
        CHECK.due("4 blanks alone", Check.read("   "), 0);
        CHECK.due("4 no blanks", Check.read("l5;b5;p5;t1;"), 4);
        CHECK.due("4 lowest numbers", Check.read("l5;w0 0 2 1;b0;p0;t1;"), 5);
        CHECK.due("4 each letter is a token", Check.read("b0;w0 0 2 1;p0;"), 3);
    }

    private static void pathFaults() {
        String[] texts = {
            // other letters, and tokens that can't stand there
            "x", "t1;x", "t1; \t", ";", "t1;;", "1", "tt", "t;", "t1 2;", "tx1;", "t1x;", "L5;", "t-1;", "t1 w",
            // l behind another item; b, p, t again
            "t1;l5;", "l5;l5;", "b1;b1;", "p1;p1;", "t1;t1;", "b1;p1;t1;w0 0 2 1;b",
            // numbers beyond what they may be
            "l4;", "l61;", "b31;", "p31;", "l5;b6;", "l5;p6;", "t0;", "t10;", "w2 0 2 1;", "w0 10 2 1;",
            "w0 0 1 1;", "w0 0 10 1;", "w0 0 2 0;", "w0 0 2 10;",
            // numbers above 99, or with a 0 ahead of others
            "l100;", "b 100;", "b01;", "b 00;", "w00 0 2 1;", "b0000000000000000000001;", "b99999999999999999999;",
            "b4294967297;",
            // it ends too early
            "t", "t ", "t1", "t1 ", "w0 0 2 1", "w0 0", "w", "t1;b", "l",
            // the first fault counts
            "tt x", "b31 x", "l4", "w3", "t1 100", "w0 0 2;",
        };
        int[] faults = {
            0, 3, 4, 0, 3, 0, 1, 1, 3, 1, 2, 0, 1, 3,
            3, 3, 3, 3, 3, 18,
            1, 1, 1, 1, 4, 4, 1, 1, 1, 3,
            5, 5, 7, 7,
            1, 2, 1, 2, 1, 1, 1,
            1,
            1, 2, 2, 3, 8, 4, 1, 4, 1,
            1, 1, 1, 1, 3, 6,
        };
        CHECK.due("4 texts and faults", texts.length, faults.length);
        for (int i = 0; i < texts.length; i++) {
            CHECK.due("4 path of '" + texts[i] + "'", Check.read(texts[i]), -10 - faults[i]);
        }
        TwoPrints p = new TwoPrints();
        for (int i = 0; i < 120; i++) {
            p.type(i == 0 ? 't' : '1');
        }
        CHECK.due("4 a number up to the text's limit", p.path(), -11);
        p.clear();
        Check.types(p, "t1;" + " ".repeat(116) + "b");
        CHECK.due("4 too early at the text's limit", p.path(), -130);
    }

    private static void pathIsAnew() {
        TwoPrints p = Check.told("l20;w0 0 2 1;w1 0 4 1;b9;p9;t9;");
        p.walks(0, 0);
        p.walks(1, 0);
        p.gives(0, 4);
        p.gives(0, 8);
        p.gives(1, 4);
        p.walks(1, 0);
        p.gives(0, 4);
        p.finds(4);
        p.keep(0);
        p.keep(1);
        p.rate(0, 0);
        p.path();
        for (int k = 0; k < 2; k++) {
            for (int what = 3; what <= 6; what++) {
                CHECK.due("4 anew walker(" + k + ", " + what + ")", p.walker(k, what), 0);
            }
        }
        CHECK.due("4 anew FOUND", p.count(4), 0);
        CHECK.due("4 anew who", p.who(), 15);
        CHECK.due("4 anew image 0", p.back(0), TwoPrints.STATE);
        CHECK.due("4 anew image 1", p.back(1), TwoPrints.STATE);
        CHECK.due("4 anew nothing to undo", p.now(3), 0);
        CHECK.due("4 anew undo", p.undo(), TwoPrints.STATE);
        CHECK.due("4 anew tracks", p.both(-1), 11);
        CHECK.due("4 THE TRACE is no part of the path", p.trace(), 1);
        Check.types(p, "b31;");
        CHECK.due("4 LENGTH is 30 if not told", p.path(), -11);
    }

    private static void pathFaultChangesNothing() {
        TwoPrints p = Check.told("l20;w0 1 2 1;b9;p8;t7;");
        p.walks(0, 0);
        p.finds(3);
        p.keep(0);
        Check.types(p, "l9;w0 5 5 5;b1;p1;t1;t1;");
        CHECK.due("4 fault", p.path(), -31);
        CHECK.due("4 the text stays", p.count(5), 24);
        CHECK.due("4 LENGTH stays", p.count(0), 20);
        CHECK.due("4 BEECH stays", p.count(1), 9);
        CHECK.due("4 PLANK stays", p.count(2), 8);
        CHECK.due("4 TURN stays", p.count(3), 7);
        CHECK.due("4 START stays", p.walker(0, 0), 1);
        CHECK.due("4 PRINTS stay", p.walker(0, 4), 10);
        CHECK.due("4 TRACKS stay", p.whose(3), 5 | 8 | 2);
        CHECK.due("4 FOUND stays", p.count(4), 1);
        CHECK.due("4 UNDO stays", p.now(3), 1);
        CHECK.due("4 the image stays", p.back(0), 10);
    }

    private static void walker() {
        TwoPrints p = Check.told("l10;w0 1 3 2;w1 0 2 5;");
        p.walks(0, 0);
        p.walks(1, 0);
        p.walks(1, 0);
        p.gives(1, 4);
        p.gives(1, 7);
        p.gives(0, 4);
        p.walks(1, 0);
        int[][] due = {{1, 3, 2, 1, 4, 2, 0}, {0, 2, 5, 3, 6, 0, 1}};
        for (int k = 0; k < 2; k++) {
            for (int what = 0; what <= 6; what++) {
                CHECK.due("5 walker(" + k + ", " + what + ")", p.walker(k, what), due[k][what]);
            }
        }
        p.rains(8);
        CHECK.due("5 the shallowest PRINTS count", p.walker(0, 4), 4);
        CHECK.due("5 walker(-1, 0)", p.walker(-1, 0), TwoPrints.BAD);
        CHECK.due("5 walker(2, 0)", p.walker(2, 0), TwoPrints.BAD);
        CHECK.due("5 walker(0, -1)", p.walker(0, -1), TwoPrints.BAD);
        CHECK.due("5 walker(1, 7)", p.walker(1, 7), TwoPrints.BAD);
    }

    private static void depthAndGift() {
        TwoPrints p = Check.told("l10;w0 1 3 2;w1 0 2 5;");
        p.walks(0, 0);
        p.rains(2);
        p.walks(1, 0);
        p.gives(0, 10);
        CHECK.due("6 depth(0, 10)", p.depth(0, 10), 7);
        CHECK.due("6 depth(1, 10)", p.depth(1, 10), 9);
        CHECK.due("6 depth(0, 0)", p.depth(0, 0), 0);
        CHECK.due("7 gift(1, 10)", p.gift(1, 10), 1);
        CHECK.due("7 gift(0, 10)", p.gift(0, 10), 0);
        CHECK.due("7 gift(1, 8)", p.gift(1, 8), 0);
        int[][] wrong = {{-1, 0}, {2, 0}, {0, -1}, {0, 11}, {1, 60}, {1, 61}, {1, Integer.MAX_VALUE}};
        for (int[] w : wrong) {
            CHECK.due("6 depth(" + w[0] + ", " + w[1] + ")", p.depth(w[0], w[1]), TwoPrints.BAD);
            CHECK.due("7 gift(" + w[0] + ", " + w[1] + ")", p.gift(w[0], w[1]), TwoPrints.BAD);
        }
    }

    private static void now() {
        TwoPrints p = Check.told("l12;w0 0 2 1;w1 0 3 1;");
        p.walks(0, 0);
        CHECK.due("8 no foot of both", p.now(0), 0);
        CHECK.due("8 peace already", p.now(1), 0);
        p.rains(3);
        p.walks(1, 0);
        CHECK.due("8 feet of both", p.now(0), 3);
        CHECK.due("8 peace by the shallower ones", p.now(1), 6);
        CHECK.due("8 may be undone", p.now(3), 3);
        p.gives(1, 4);
        p.walks(0, 0);
        CHECK.due("8 peace", p.now(1), 9);
        CHECK.due("8 walker 0 took more", p.now(2), 1);
        p.gives(0, 3);
        p.gives(0, 9);
        p.walks(1, 0);
        CHECK.due("8 walker 1 took more", p.now(2), 10);
        p.gives(1, 0);
        p.walks(0, 0);
        CHECK.due("8 as many", p.now(2), TwoPrints.NONE);
        CHECK.due("8 eight at most", p.now(3), 8);
        TwoPrints onlyTheStart = Check.told("l5;w0 0 5 1;w1 0 4 1;");
        onlyTheStart.walks(0, 0);
        onlyTheStart.walks(1, 0);
        CHECK.due("8 of both on foot 0 alone", onlyTheStart.now(0), 1);
        CHECK.due("8 and peace is for foot 0", onlyTheStart.now(1), 9);
        CHECK.due("8 now(-1)", p.now(-1), TwoPrints.BAD);
        CHECK.due("8 now(4)", p.now(4), TwoPrints.BAD);
    }
}
