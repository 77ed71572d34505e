/** The edges of promises 25 to 33: FOUND, WHO, STRANGERS, KINDS, IMAGES, counts and THE TRACE. */
public final class KindEdgesTest {
    private static final Check CHECK = new Check();

    public static void main(String[] args) {
        foundSixAtMost();
        foundOnEitherEnd();
        forgetOfNothingAndAll();
        whoOfNothingAndNobody();
        strangersOfNothing();
        strangersFirstAndLast();
        strangersUpToTheEnd();
        rateLowestAndHighest();
        rateOfEachKindOnEitherEnd();
        traceOfEachKind();
        traceStays();
        imagesAreTwo();
        imagesOfNothing();
        imagesHoldAllOfIt();
        imagesHoldNothingElse();
        imagesAreGone();
        countOfEach();
        CHECK.end();
    }

    /** "FOUND (6 at most)" */
    private static void foundSixAtMost() {
        TwoPrints p = Check.told("l60;w0 0 2 1;w1 0 4 1;");
        for (int n = 1; n <= 6; n++) {
            CHECK.due("25 the " + n + "th", p.finds(4 * n), n);
            CHECK.due("32 FOUND", p.count(4), n);
        }
        CHECK.due("25 a seventh", p.finds(1), TwoPrints.FULL);
        CHECK.due("25 a seventh, found already", p.finds(4), TwoPrints.FULL);
        CHECK.due("32 six", p.count(4), 6);
        CHECK.due("27 what was refused is not FOUND", p.who(), 3);
        CHECK.due("26 forget", p.forget(), 6);
        for (int n = 1; n <= 6; n++) {
            CHECK.due("25 one and the same", p.finds(60), n);
        }
        CHECK.due("25 once more the same", p.finds(60), TwoPrints.FULL);
        CHECK.due("27 who trod on it", p.who(), 15);
        CHECK.due("26 forget", p.forget(), 6);
        CHECK.due("25 there is room again", p.finds(0), 1);
    }

    private static void foundOnEitherEnd() {
        for (int length : new int[] {5, 30, 60}) {
            TwoPrints p = Check.told("l" + length + ";w0 0 5 1;w1 0 4 1;");
            CHECK.due("25 the first foot", p.finds(0), 1);
            CHECK.due("27 all begin there", p.who(), 15);
            CHECK.due("25 the last foot", p.finds(length), 2);
            CHECK.due("27 who gets there", p.who(), p.whose(length));
            CHECK.due("25 beyond it", p.finds(length + 1), TwoPrints.BAD);
            CHECK.due("25 ahead of all", p.finds(-1), TwoPrints.BAD);
            CHECK.due("32 two", p.count(4), 2);
        }
    }

    private static void forgetOfNothingAndAll() {
        TwoPrints p = new TwoPrints();
        CHECK.due("26 nothing", p.forget(), 0);
        p.finds(1);
        CHECK.due("26 one", p.forget(), 1);
        CHECK.due("26 nothing again", p.forget(), 0);
        Whole.same(CHECK, "26 only FOUND is changed", () -> {
            TwoPrints worn = Made.worn(10);
            worn.forget();
            worn.finds(0);
            worn.finds(3);
            return worn;
        }, () -> Made.worn(10));
    }

    private static void whoOfNothingAndNobody() {
        CHECK.due("27 nothing FOUND", new TwoPrints().who(), 15);
        TwoPrints empty = Check.told("l5;w0 6 2 1;w1 9 2 1;");
        CHECK.due("27 nothing FOUND, TRACKS without feet", empty.who(), 15);
        empty.finds(5);
        CHECK.due("27 nobody", empty.who(), 0);
        // 0: 0 4 8; 1: 0 3 6; LIMPING 0 4 7, and 0 3 5 8
        int[][] found = {{4, 8}, {3, 6}, {4, 7}, {5, 8}, {0}, {8}, {0, 1}, {2}};
        int[] due = {1, 2, 4, 8, 15, 1 | 8, 0, 0};
        for (int i = 0; i < found.length; i++) {
            TwoPrints p = Check.told("l8;w0 0 4 1;w1 0 3 1;");
            for (int x : found[i]) {
                p.finds(x);
            }
            CHECK.due("27 the " + i + "th of these", p.who(), due[i]);
        }
    }

    private static void strangersOfNothing() {
        for (String text : new String[] {"", "l5;", "l60;", "l5;w0 9 9 9;w1 9 9 9;"}) {
            TwoPrints p = Check.told(text);
            CHECK.due("28 all of them on '" + text + "'", p.strangers(0), 80);
            CHECK.due("28 START 0, STRIDE 2", p.strangers(1), 2);
            CHECK.due("28 what -1", p.strangers(-1), TwoPrints.BAD);
            CHECK.due("28 what 2", p.strangers(2), TwoPrints.BAD);
        }
    }

    private static void strangersAre(String length, int[] found, int many, int first) {
        TwoPrints p = Check.told(length);
        StringBuilder what = new StringBuilder("28 strangers with");
        for (int x : found) {
            p.finds(x);
            what.append(' ').append(x);
        }
        CHECK.due(what + ": how many", p.strangers(0), many);
        CHECK.due(what + ": the first", p.strangers(1), first);
    }

    /** "any START (0 .. 9), STRIDE (2 .. 9), not LIMPING" */
    private static void strangersFirstAndLast() {
        strangersAre("l60;", new int[] {0}, 8, 2);
        strangersAre("l60;", new int[] {1}, 8, 12);
        // START 2: all; START 0 by 2
        strangersAre("l60;", new int[] {2}, 9, 2);
        // START 9 all 8, 7 by 2, 6 by 3, 5 by 2 4, 4 by 5, 3 by 2 3 6, 2 by 7, 1 by 2 4 8, 0 by 3 9
        strangersAre("l60;", new int[] {9}, 22, 3);
        strangersAre("l60;", new int[] {0, 9}, 2, 3);
        strangersAre("l60;", new int[] {0, 2}, 1, 2);
        strangersAre("l60;", new int[] {8, 17}, 4, 23);
        strangersAre("l60;", new int[] {7, 14, 23}, 0, TwoPrints.NONE);
        // a STRIDE of 1 or of 10 is none
        strangersAre("l60;", new int[] {0, 1}, 0, TwoPrints.NONE);
        strangersAre("l60;", new int[] {8, 9}, 0, TwoPrints.NONE);
        strangersAre("l60;", new int[] {0, 10, 20}, 2, 2);
        // a START of 10 is none: 10 12 by 2 from 0 2 4 6 8
        strangersAre("l60;", new int[] {10, 12}, 5, 2);
        // one who limps by 3 treads on 0 3 5 8 10
        strangersAre("l60;", new int[] {0, 3, 5, 8, 10}, 0, TwoPrints.NONE);
    }

    private static void strangersUpToTheEnd() {
        // START 5 all 8, 3 by 2, 2 by 3, 1 by 2 4, 0 by 5
        strangersAre("l5;", new int[] {5}, 13, 5);
        strangersAre("l5;", new int[] {0, 5}, 1, 5);
        // 60: START 0 by 2 3 4 5 6; 1 by none; 2 by 2; 3 by 3; 4 by 2 4 7 8; 5 by 5; 6 by 2 3 6 9; 7 by none; 8 by 2 4; 9 by 3
        strangersAre("l60;", new int[] {60}, 19, 2);
        strangersAre("l60;", new int[] {0, 60}, 5, 2);
        // by 3 from 0 3 6, by 9 from 6
        strangersAre("l60;", new int[] {6, 15, 24, 33, 42, 60}, 4, 3);
    }

    /** "NO: BAD", as a RATE may be below 0. */
    private static void rateLowestAndHighest() {
        TwoPrints p = Check.told("l60;w0 0 2 1;w1 0 2 1;");
        CHECK.due("29 the lowest", p.rate(2, 60), -60);
        CHECK.due("29 -1 is no refusal", p.rate(2, 1), -1);
        CHECK.due("29 -9 is no NONE", p.rate(2, 9), -9);
        CHECK.due("29 TRACKS less the foot", p.rate(4, 60), -56);
        p.walks(0, 0);
        p.walks(1, 0);
        CHECK.due("29 FOOT", p.rate(0, 60), 9);
        CHECK.due("29 BOOT", p.rate(1, 60), 18);
        CHECK.due("29 LIMP, the most", p.rate(3, 60), 36);
        CHECK.due("29 CHILD", p.rate(2, 60), -51);
        CHECK.due("29 CHILD on foot 0", p.rate(2, 0), 9);
        CHECK.due("29 GIFT, the most", p.rate(4, 0), 13);
        CHECK.due("29 COW", p.rate(5, 60), 11);
        for (int x : new int[] {-1, 61, Integer.MIN_VALUE, Integer.MAX_VALUE}) {
            for (int kind = -1; kind <= 6; kind++) {
                CHECK.due("29 rate(" + kind + ", " + x + ")", p.rate(kind, x), TwoPrints.NO);
            }
        }
        CHECK.due("29 a kind too low", p.rate(-1, 0), TwoPrints.NO);
        CHECK.due("29 a kind too high", p.rate(6, 0), TwoPrints.NO);
    }

    private static void rateOfEachKindOnEitherEnd() {
        // 0: 0 5, 1: 5; LIMPING the same
        TwoPrints p = Check.told("l5;w0 0 5 1;w1 5 2 1;");
        p.walks(0, 0);
        p.rains(2);
        p.walks(1, 1);
        int[] onZero = {7, 7, 7, 14, 7 + 2, 7 + 2};
        int[] onFive = {7, 16, 2, 32, 2 + 4, 7 + 2};
        for (int kind = 0; kind <= 5; kind++) {
            CHECK.due("29 rate(" + kind + ", 0)", p.rate(kind, 0), onZero[kind]);
            CHECK.due("29 rate(" + kind + ", 5)", p.rate(kind, 5), onFive[kind]);
            CHECK.due("29 rate(" + kind + ", 6)", p.rate(kind, 6), TwoPrints.NO);
        }
        p.walks(1, 0);
        CHECK.due("29 WALKS of both, another of 1's", p.rate(5, 0), 7 + 3);
        p.walks(0, 0);
        p.walks(0, 0);
        CHECK.due("29 WALKS of both, two more of 0's", p.rate(5, 0), 9 + 5);
        p.snows();
        CHECK.due("29 no WALKS behind snow", p.rate(5, 5), 0);
    }

    /** "as often as rate() asks that body: each once" */
    private static void traceOfEachKind() {
        long[] due = {1, 11, 101, 1011, 10101, 100001};
        for (int kind = 0; kind <= 5; kind++) {
            TwoPrints p = Check.told("l5;");
            CHECK.due("33 at first", p.trace(), 0);
            p.rate(kind, 0);
            CHECK.due("33 kind " + kind, p.trace(), due[kind]);
            p.rate(kind, 5);
            CHECK.due("33 kind " + kind + " again", p.trace(), 2 * due[kind]);
            p.rate(kind, 6);
            p.rate(kind, -1);
            p.rate(6, 0);
            p.rate(-1, 0);
            CHECK.due("33 what is refused asks no body", p.trace(), 2 * due[kind]);
            CHECK.due("33 asked twice", p.trace(), 2 * due[kind]);
        }
    }

    /** IMAGES keep nothing else; nothing else is told of THE TRACE than that it grows. */
    private static void traceStays() {
        TwoPrints p = Check.told("l5;");
        p.keep(0);
        p.walks(0, 0);
        p.rate(5, 0);
        p.undo();
        CHECK.due("33 behind undo()", p.trace(), 100001);
        p.back(0);
        CHECK.due("33 behind back()", p.trace(), 100001);
        p.snows();
        CHECK.due("33 behind snows()", p.trace(), 100001);
        p.forget();
        p.clear();
        CHECK.due("33 behind forget(), clear()", p.trace(), 100001);
        p.path();
        CHECK.due("33 behind path()", p.trace(), 100001);
        for (int i = 0; i < 480; i++) {
            p.rate(5, 30);
        }
        CHECK.due("33 as much as one object can come to", p.trace(), 481 * 100001L);
    }

    /** "IMAGES 0, 1", each for itself. */
    private static void imagesAreTwo() {
        TwoPrints p = Check.told("l5;w0 0 5 1;w1 0 2 1;");
        CHECK.due("30 keep(0) of nothing", p.keep(0), 0);
        p.walks(0, 0);
        CHECK.due("30 keep(1) of two PRINTS", p.keep(1), 2);
        p.walks(1, 0);
        CHECK.due("31 back(0)", p.back(0), 0);
        CHECK.due("31 back(1)", p.back(1), 2);
        CHECK.due("31 back(1) again", p.back(1), 2);
        p.walks(1, 0);
        CHECK.due("30 the later one", p.keep(0), 5);
        p.snows();
        CHECK.due("31 the other one is as it was", p.back(1), 2);
        CHECK.due("31 the later one", p.back(0), 5);
        for (int image : new int[] {-1, 2, Integer.MIN_VALUE, Integer.MAX_VALUE}) {
            CHECK.due("30 keep(" + image + ")", p.keep(image), TwoPrints.BAD);
            CHECK.due("31 back(" + image + ")", p.back(image), TwoPrints.BAD);
        }
        CHECK.due("31 as it was", p.back(0), 5);
    }

    private static void imagesOfNothing() {
        TwoPrints p = new TwoPrints();
        CHECK.due("31 image 0 was not kept", p.back(0), TwoPrints.STATE);
        CHECK.due("31 image 1 was not kept", p.back(1), TwoPrints.STATE);
        CHECK.due("30 an image of nothing", p.keep(1), 0);
        CHECK.due("31 is one", p.back(1), 0);
        CHECK.due("31 the other one is none", p.back(0), TwoPrints.STATE);
    }

    private static TwoPrints rich() {
        TwoPrints p = Check.told("l60;w0 0 5 1;w1 0 6 1;");
        p.walks(0, 0);
        p.walks(1, 0);
        for (int k = 0; k < 2; k++) {
            p.gives(1 - k, 0);
            p.walks(k, 0);
            p.gives(1 - k, 0);
            p.gives(1 - k, 60);
        }
        p.rains(3);
        return p;
    }

    /** "PRINTS, GIFTS, WALKS, what was TAKEN", up to the last foot, whatever was done since. */
    private static void imagesHoldAllOfIt() {
        for (int image = 0; image < 2; image++) {
            int which = image;
            Whole.same(CHECK, "31 all is as it was kept in image " + which, () -> {
                TwoPrints p = rich();
                p.keep(0);
                p.keep(1);
                p.walks(0, 1);
                p.gives(1, 5);
                p.walks(1, 1);
                p.cows(59);
                p.fills(0, 5);
                p.snows();
                p.back(which);
                return p;
            }, () -> {
                TwoPrints p = rich();
                p.keep(0);
                p.keep(1);
                p.back(which);
                return p;
            });
        }
        TwoPrints p = rich();
        CHECK.due("30 PRINTS of both", p.keep(0), 13 + 11);
        p.snows();
        CHECK.due("31 PRINTS of both", p.back(0), 13 + 11);
        CHECK.due("31 DEPTH on the last foot", p.depth(1, 60), 6);
        CHECK.due("31 a GIFT on the last foot", p.gift(1, 60), 1);
        CHECK.due("31 WALKS", p.walker(0, 3), 2);
        CHECK.due("31 TAKEN", p.walker(1, 6), 1);
    }

    /** "nothing else (nothing can be UNDONE behind back())" */
    private static void imagesHoldNothingElse() {
        TwoPrints p = Check.told("l5;");
        p.walks(0, 0);
        p.keep(0);
        CHECK.due("30 keep() leaves what may be undone", p.now(3), 1);
        p.finds(0);
        p.type('x');
        p.rate(0, 0);
        CHECK.due("31 back", p.back(0), 2);
        CHECK.due("31 FOUND stays", p.count(4), 1);
        CHECK.due("31 THE TEXT stays", p.count(5), 1);
        CHECK.due("31 THE TRACE stays", p.trace(), 1);
        CHECK.due("31 nothing can be undone", p.now(3), 0);
        CHECK.due("31 nothing can be undone", p.undo(), TwoPrints.STATE);
        p.rains(9);
        CHECK.due("31 what is done since can", p.undo(), 0);
        p.rains(9);
        CHECK.due("31 back() does not undo, and is not undone", p.back(0), 2);
        CHECK.due("31 nothing can be undone", p.undo(), TwoPrints.STATE);
    }

    /** "IMAGES are gone", when the text is read anew; not by a fault. */
    private static void imagesAreGone() {
        TwoPrints p = Check.told("l5;");
        p.walks(0, 0);
        p.keep(0);
        p.keep(1);
        p.type('x');
        CHECK.due("4 a fault", p.path(), -10);
        CHECK.due("31 image 0 is there", p.back(0), 2);
        CHECK.due("31 image 1 is there", p.back(1), 2);
        p.clear();
        CHECK.due("4 read anew", p.path(), 0);
        CHECK.due("31 image 0 is gone", p.back(0), TwoPrints.STATE);
        CHECK.due("31 image 1 is gone", p.back(1), TwoPrints.STATE);
        CHECK.due("30 kept anew", p.keep(1), 0);
        CHECK.due("31 it is there", p.back(1), 0);
        CHECK.due("31 the other one is not", p.back(0), TwoPrints.STATE);
    }

    private static void countOfEach() {
        int[] first = {30, 0, 0, 2, 0, 0};
        int[] most = {60, 60, 60, 9, 6, 120};
        int[] least = {5, 0, 0, 1, 0, 0};
        TwoPrints high = Check.told("l60;b60;p60;t9;");
        for (int n = 0; n < 6; n++) {
            high.finds(60);
        }
        Check.types(high, Made.LONGEST);
        TwoPrints low = Check.told("l5;b0;p0;t1;");
        for (int what = 0; what <= 5; what++) {
            CHECK.due("32 at first count(" + what + ")", new TwoPrints().count(what), first[what]);
            CHECK.due("32 the most count(" + what + ")", high.count(what), most[what]);
            CHECK.due("32 the least count(" + what + ")", low.count(what), least[what]);
        }
        CHECK.due("32 count(-1)", high.count(-1), TwoPrints.BAD);
        CHECK.due("32 count(6)", high.count(6), TwoPrints.BAD);
    }
}
