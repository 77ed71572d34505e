/** The edges of promises 16 to 21: whose a foot can be, where both tread, what tells TRACKS, what is left, JUMPS, CHILD. */
public final class TrackEdgesTest {
    private static final Check CHECK = new Check();

    public static void main(String[] args) {
        whoseOnTheFirstAndLast();
        whoseOfNone();
        bothOfNone();
        bothUpToTheLast();
        bothIsNotOfLimping();
        tellsOfTheSame();
        tellsOnTheFirstAndLast();
        tellsOfEmptyTracks();
        leftByEachRain();
        jumpsOfNone();
        jumpsJustSoFar();
        jumpsOverTheWholePath();
        childOfNone();
        childOnOneFoot();
        childJustSoFar();
        childOverTheWholePath();
        childNotBack();
        childTheKth();
        childFirstOfSeveral();
        childManyWays();
        CHECK.end();
    }

    /** Two walkers' prints, written foot by foot: 0, 1, or b for both. Other feet have none. */
    private static TwoPrints laid(String feet) {
        TwoPrints p = Check.told("l" + (feet.length() - 1) + ";w0 0 2 1;w1 0 2 1;");
        for (int k = 0; k < 2; k++) {
            p.walks(k, 0);
            p.walks(k, 1);
        }
        for (int x = 0; x < feet.length(); x++) {
            for (int k = 0; k < 2; k++) {
                boolean isThere = feet.charAt(x) == 'b' || feet.charAt(x) == '0' + k;
                if (!isThere) {
                    p.fills(k, x);
                } else if (p.depth(k, x) == 0) {
                    throw new IllegalStateException("nobody can tread on foot " + x);
                }
            }
        }
        return p;
    }

    private static String none(int many) {
        return ".".repeat(many);
    }

    private static void whoseOnTheFirstAndLast() {
        CHECK.due("16 foot 0 of all", Check.told("l5;").whose(0), 15);
        CHECK.due("16 foot 60 of all", Check.told("l60;w0 0 2 1;w1 0 3 1;").whose(60), 15);
        CHECK.due("16 foot 60, not LIMPING", Check.told("l60;w0 0 3 1;w1 0 6 1;").whose(60), 1 | 2 | 4);
        CHECK.due("16 foot 59, LIMPING", Check.told("l60;w0 0 2 1;w1 9 9 1;").whose(59), 4);
        CHECK.due("16 foot 5 of 5", Check.told("l5;w0 5 9 1;w1 0 3 1;").whose(5), 1 | 4 | 8);
        CHECK.due("16 foot 6 of 5", Check.told("l5;w0 5 9 1;w1 0 3 1;").whose(6), TwoPrints.BAD);
        CHECK.due("16 foot -1", Check.told("l5;").whose(-1), TwoPrints.BAD);
    }

    private static void whoseOfNone() {
        TwoPrints p = Check.told("l5;w0 6 2 1;w1 9 2 1;");
        for (int x = 0; x <= 5; x++) {
            CHECK.due("16 TRACKS behind the end: whose(" + x + ")", p.whose(x), 0);
        }
        CHECK.due("16 between steps", Check.told("l9;w0 0 9 1;w1 0 9 1;").whose(8), 0);
    }

    private static void bothOfNone() {
        String[] texts = {"l5;w0 6 2 1;w1 9 2 1;", "l5;w0 6 2 1;w1 0 2 1;", "l60;w0 0 2 1;w1 1 2 1;", "l5;w0 0 5 1;w1 1 5 1;"};
        for (String text : texts) {
            TwoPrints p = Check.told(text);
            CHECK.due("17 how many on " + text, p.both(-1), 0);
            CHECK.due("17 the 0th on " + text, p.both(0), TwoPrints.NONE);
            CHECK.due("17 the 1st on " + text, p.both(1), TwoPrints.NONE);
            CHECK.due("17 below -1", p.both(-2), TwoPrints.BAD);
        }
    }

    /** "how many; the k-th; NONE": the last there is, and the one behind it. */
    private static void bothUpToTheLast() {
        String[] texts = {"l60;w0 0 2 1;w1 0 2 1;", "l60;w0 0 5 1;w1 4 8 1;", "l5;w0 5 2 1;w1 5 9 1;", "l5;w0 0 9 1;w1 0 8 1;"};
        int[] many = {31, 2, 1, 1};
        int[] first = {0, 20, 5, 0};
        int[] last = {60, 60, 5, 0};
        for (int i = 0; i < texts.length; i++) {
            TwoPrints p = Check.told(texts[i]);
            CHECK.due("17 how many on " + texts[i], p.both(-1), many[i]);
            CHECK.due("17 the first on " + texts[i], p.both(0), first[i]);
            CHECK.due("17 the last on " + texts[i], p.both(many[i] - 1), last[i]);
            CHECK.due("17 one behind it on " + texts[i], p.both(many[i]), TwoPrints.NONE);
        }
    }

    private static void bothIsNotOfLimping() {
        // 0: 0 4, LIMPING 0 4 7; 1: 7
        TwoPrints p = Check.told("l7;w0 0 4 1;w1 7 2 1;");
        CHECK.due("16 0 LIMPING and 1 meet", p.whose(7), 2 | 4 | 8);
        CHECK.due("17 it does not count", p.both(-1), 0);
        p.walks(0, 1);
        p.walks(1, 0);
        CHECK.due("8 though both PRINTS are there", p.now(0), 1);
        CHECK.due("17 PRINTS do not count", p.both(0), TwoPrints.NONE);
    }

    private static void tellsOfTheSame() {
        TwoPrints p = new TwoPrints();
        for (int a = 0; a < 4; a++) {
            CHECK.due("18 tells(" + a + ", " + a + ")", p.tells(a, a), TwoPrints.NONE);
        }
        CHECK.due("18 two walkers, one track", p.tells(0, 1), TwoPrints.NONE);
        CHECK.due("18 two walkers, one limping track", p.tells(2, 3), TwoPrints.NONE);
        CHECK.due("18 no second step", Check.told("l16;w0 0 9 1;").tells(0, 2), TwoPrints.NONE);
        CHECK.due("18 a second step", Check.told("l17;w0 0 9 1;").tells(0, 2), 17);
    }

    private static void tellsOnTheFirstAndLast() {
        TwoPrints p = Check.told("l60;w0 0 5 1;w1 5 5 1;");
        CHECK.due("18 on foot 0", p.tells(0, 1), 0);
        CHECK.due("18 on foot 0, the other way round", p.tells(1, 0), 0);
        TwoPrints second = Check.told("l60;w0 6 9 1;w1 6 9 1;");
        CHECK.due("18 LIMPING tells on the second step", second.tells(0, 2), 23);
        TwoPrints end = Check.told("l9;w0 0 5 1;w1 0 5 1;");
        CHECK.due("18 on the last foot", end.tells(0, 2), 9);
        CHECK.due("18 on the last foot, the other way round", end.tells(2, 0), 9);
        CHECK.due("18 of the other walker", end.tells(3, 1), 9);
    }

    private static void tellsOfEmptyTracks() {
        TwoPrints p = Check.told("l5;w0 6 2 1;w1 5 2 1;");
        CHECK.due("18 nothing and the last foot", p.tells(0, 1), 5);
        CHECK.due("18 the last foot and nothing", p.tells(3, 2), 5);
        CHECK.due("18 nothing and nothing", p.tells(0, 2), TwoPrints.NONE);
    }

    /** "LEFT of a WALKER by n (0 .. 9) RAIN": each DEPTH by each RAIN. */
    private static void leftByEachRain() {
        for (int deep = 0; deep <= 9; deep++) {
            TwoPrints p = Check.told("l60;w0 0 5 1;w1 0 6 1;");
            p.walks(0, 0);
            p.walks(1, 0);
            if (deep < 9) {
                p.rains(9 - deep);
            }
            for (int n = 0; n <= 9; n++) {
                CHECK.due("19 DEPTH " + deep + " by " + n, p.left(0, n), deep > n ? 13 : 0);
                CHECK.due("19 DEPTH " + deep + " by " + n, p.left(1, n), deep > n ? 11 : 0);
            }
        }
    }

    private static void jumpsOfNone() {
        TwoPrints p = Check.told("l60;w0 0 5 1;w1 0 6 1;");
        for (int k = 0; k < 2; k++) {
            CHECK.due("20 nobody walked", p.jumps(60, 0), 0);
            CHECK.due("20 nobody walked", p.jumps(60, 1), TwoPrints.NONE);
            p.walks(k, 0);
            CHECK.due("20 only " + k + " walked", p.jumps(60, 0), 0);
            CHECK.due("20 only " + k + " walked", p.jumps(60, 1), TwoPrints.NONE);
            p.snows();
        }
    }

    /** "no more than d feet from each other": just so far, and one less, either way. */
    private static void jumpsJustSoFar() {
        String[] paths = {"0..1..", "1..0..", "..0...1", "..1...0"};
        int[] apart = {3, 3, 4, 4};
        int[] first = {3, 300, 206, 602};
        for (int i = 0; i < paths.length; i++) {
            TwoPrints p = laid(paths[i]);
            CHECK.due("20 just so far: " + paths[i], p.jumps(apart[i], 0), 1);
            CHECK.due("20 just so far: " + paths[i], p.jumps(apart[i], 1), first[i]);
            CHECK.due("20 one less: " + paths[i], p.jumps(apart[i] - 1, 0), 0);
            CHECK.due("20 one less: " + paths[i], p.jumps(apart[i] - 1, 1), TwoPrints.NONE);
            CHECK.due("20 the most: " + paths[i], p.jumps(60, 0), 1);
            CHECK.due("20 more than that", p.jumps(61, 0), TwoPrints.BAD);
        }
        TwoPrints same = laid("......b..");
        CHECK.due("20 on one foot", same.jumps(0, 0), 1);
        CHECK.due("20 on one foot", same.jumps(0, 1), 606);
        CHECK.due("20 on foot 0", laid("b.....").jumps(0, 1), 0);
        CHECK.due("20 on foot 5", laid(".....b").jumps(0, 1), 505);
    }

    private static void jumpsOverTheWholePath() {
        TwoPrints p = laid("b" + none(59) + "b");
        CHECK.due("20 by 59 only on one foot", p.jumps(59, 0), 2);
        CHECK.due("20 by 60 all four", p.jumps(60, 0), 4);
        TwoPrints forth = laid("0" + none(59) + "1");
        CHECK.due("20 by 60", forth.jumps(60, 1), 60);
        CHECK.due("20 by 59", forth.jumps(59, 1), TwoPrints.NONE);
        TwoPrints back = laid("1" + none(59) + "0");
        CHECK.due("20 by 60", back.jumps(60, 1), 6000);
        CHECK.due("20 by 59", back.jumps(59, 1), TwoPrints.NONE);
        CHECK.due("20 most twos", laid("b.bbbbb.bbbbb").jumps(60, 0), 11 * 11);
    }

    /** The answers of child(d, ..) from -2 on. */
    private static void childIs(String what, TwoPrints p, int d, int... due) {
        for (int i = 0; i < due.length; i++) {
            CHECK.due("21 " + what + ": child(" + d + ", " + (i - 2) + ")", p.child(d, i - 2), due[i]);
        }
    }

    /** "NONE (no PRINTS, it can not)", "0: not at all" */
    private static void childOfNone() {
        childIs("nobody walked", new TwoPrints(), 0, 0, -9, -9, -9);
        childIs("nobody walked", new TwoPrints(), 60, 0, -9, -9, -9);
        TwoPrints p = laid("0.0...");
        childIs("no other one", p, 60, 0, -9, -9, -9);
        childIs("no other one", laid("1.1..."), 60, 0, -9, -9, -9);
        p.rains(9);
        childIs("rained away", p, 60, 0, -9, -9);
        childIs("the other one's lies between", laid("0.1..0"), 2, 0, -9, -9);
    }

    private static void childOnOneFoot() {
        for (int d : new int[] {0, 1, 60}) {
            childIs("0's PRINT alone", laid("0....."), d, 1, 0, 0, -5, -5);
            childIs("1's PRINT alone", laid("1....."), d, 1, 0, 100, -5, -5);
            childIs("both on foot 0", laid("b....."), d, 2, 0, 0, -5, -5);
            childIs("0's PRINT on the last foot", laid(".....0"), d, 1, 0, 5, -5);
            childIs("1's PRINT on the last foot", laid(none(60) + "1"), d, 1, 0, 160, -5);
            childIs("both on the last foot", laid(none(60) + "b"), d, 2, 0, 60, -5);
        }
    }

    /** "no more than d feet on" */
    private static void childJustSoFar() {
        childIs("just so far", laid("0...1."), 4, 1, 1, 0, 104, -5);
        childIs("one less", laid("0...1."), 3, 0, -9, -9, -9);
        childIs("from 1's", laid("..1..0"), 3, 1, 1, 102, 5, -5);
        childIs("from 1's, one less", laid("..1..0"), 2, 0, -9, -9, -9);
        childIs("in two, the second is longer", laid("0.1..0"), 3, 1, 2, 0, 102, 5, -5);
        childIs("in two, the second is too long", laid("0.1..0"), 2, 0, -9, -9, -9);
        childIs("by 0 feet to another foot", laid("b.b..."), 0, 0, -9, -9, -9);
        // on the same foot it goes from one to the other
        childIs("over on foot 3", laid("0..b..0"), 3, 1, 2, 0, 103, 6, -5);
        childIs("over on foot 3, then on", laid("0..b..1"), 3, 1, 3, 0, 103, 3, 106, -5);
        // the highest foot has both: it may stop at either
        childIs("either ends", laid("0.....b"), 6, 1, 1, 0, 106, -5);
        childIs("either begins", laid("b.....1"), 6, 1, 1, 0, 106, -5);
        childIs("either begins", laid("b.....0"), 6, 1, 1, 100, 6, -5);
    }

    private static void childOverTheWholePath() {
        String middle = none(59);
        childIs("0 to 60", laid("0" + middle + "1"), 60, 1, 1, 0, 160, -5);
        childIs("0 to 60, by 59", laid("0" + middle + "1"), 59, 0, -9, -9);
        childIs("0 to 60, from 1's", laid("1" + middle + "0"), 60, 1, 1, 100, 60, -5);
        childIs("0 to 60, both", laid("b" + middle + "b"), 60, 2, 1, 0, 160, -5);
        childIs("0 to 60, both, by 59", laid("b" + middle + "b"), 59, 0, -9, -9);
        CHECK.due("21 by 61", laid("b" + middle + "b").child(61, -1), TwoPrints.BAD);
        CHECK.due("21 by -1", laid("b" + middle + "b").child(-1, -1), TwoPrints.BAD);
    }

    /** "(not back; on the same foot well)" */
    private static void childNotBack() {
        childIs("from 3 back to 2", laid("0.01.1"), 3, 0, -9, -9);
        childIs("from 4 back to 3, then on to 8", laid("0..01...1"), 5, 0, -9, -9);
        childIs("at once", laid("0..01...1"), 8, 1, 1, 0, 108, -5);
        childIs("on from 3 to 6", laid("0.010.0"), 3, 1, 2, 0, 103, 6, -5);
    }

    /** "the k-th PRINT (0 the first; -5: not so many)" */
    private static void childTheKth() {
        TwoPrints p = laid("0.1.0.1");
        childIs("by 2", p, 2, 1, 3, 0, 102, 4, 106, -5, -5);
        CHECK.due("21 far beyond", p.child(2, 1000000), -5);
        CHECK.due("21 the last number", p.child(2, Integer.MAX_VALUE), -5);
        CHECK.due("21 below -2", p.child(2, -3), TwoPrints.BAD);
        CHECK.due("21 far below", p.child(2, Integer.MIN_VALUE), TwoPrints.BAD);
        TwoPrints evenFeet = Check.told("l60;w0 0 2 1;w1 0 2 1;");
        evenFeet.walks(0, 0);
        evenFeet.walks(1, 0);
        CHECK.due("21 thirty JUMPS", evenFeet.child(2, -1), 30);
        CHECK.due("21 the last PRINT but one", evenFeet.child(2, 29), 158);
        CHECK.due("21 the last PRINT", evenFeet.child(2, 30), 60);
        CHECK.due("21 one more", evenFeet.child(2, 31), -5);
    }

    /** "of these rows the first (PRINT by PRINT, where it begins too ..)" */
    private static void childFirstOfSeveral() {
        childIs("the lower one of two", laid("0.11..0"), 4, 2, 2, 0, 102, 6, -5);
        childIs("the lower one is too far from the end", laid("0.11..0"), 3, 1, 2, 0, 103, 6, -5);
        childIs("the lower one of two, later on", laid("0.1.0.0.1"), 4, 2, 3, 0, 102, 4, 108, -5);
        // 0 104 6 and 100 2 106
        childIs("0's begins, though 1's goes on to a lower one", laid("b.0.1.b"), 4, 2, 2, 0, 104, 6, -5);
        childIs("1's begins, as it has fewer", laid("b.0..1"), 3, 1, 2, 100, 2, 105, -5);
    }

    /** "in how many ways, modulo 1000003 (where it begins, ends, too)" */
    private static void childManyWays() {
        childIs("either begins, either ends", laid("b.b.b.b"), 6, 2, 1, 0, 106, -5);
        childIs("by either of the middle, from either", laid("b.b.b.b"), 4, 4, 2, 0, 102, 6, -5);
        // both on 0, then on 2 3, 5 6, .., 59 60: by 4 from each of a two to each of the next, 19 times, then to 60
        TwoPrints twos = Check.told("l60;w0 0 2 1;w1 0 2 1;");
        twos.walks(0, 1);
        twos.walks(1, 1);
        childIs("from either 2 to the 19th, together more than the modulus", twos, 4, (1 << 20) % 1000003, 20, 0, 102, 5);
        CHECK.due("21 the last PRINT but one", twos.child(4, 19), 156);
        CHECK.due("21 the last PRINT", twos.child(4, 20), 60);
        CHECK.due("21 no more", twos.child(4, 21), -5);
        TwoPrints less = Check.told("l57;w0 0 2 1;w1 0 2 1;");
        less.walks(0, 1);
        less.walks(1, 1);
        childIs("less than the modulus", less, 4, 1 << 19, 19, 0, 102, 5);
    }
}
