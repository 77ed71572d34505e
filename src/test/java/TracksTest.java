/** Promises 16 to 21: whose, both, tells, left, jumps, child. */
public final class TracksTest {
    private static final Check CHECK = new Check();

    public static void main(String[] args) {
        whose();
        both();
        tells();
        left();
        jumps();
        childOnFewPrints();
        childRows();
        childManyWays();
        atTheEdges();
        childWrong();
        CHECK.end();
    }

    private static void whose() {
        // 0: 1 5 9; 1: 0 2 4 6 8 10; 0 limping: 1 5 8; 1 limping: 0 2 3 5 6 8 9
        TwoPrints p = Check.told("l10;w0 1 4 1;w1 0 2 1;");
        int[] due = {10, 1 | 4, 10, 8, 2, 1 | 4 | 8, 10, 0, 2 | 4 | 8, 1 | 8, 2};
        for (int x = 0; x <= 10; x++) {
            CHECK.due("16 whose(" + x + ")", p.whose(x), due[x]);
        }
        CHECK.due("16 whose(-1)", p.whose(-1), TwoPrints.BAD);
        CHECK.due("16 whose(11)", p.whose(11), TwoPrints.BAD);
        CHECK.due("16 the start of all", Check.told("l60;").whose(0), 15);
        CHECK.due("16 the last foot", Check.told("l60;w0 0 5 1;w1 0 9 1;").whose(60), 1 | 8);
    }

    private static void both() {
        TwoPrints p = Check.told("l12;w0 0 2 1;w1 0 3 1;");
        CHECK.due("17 how many", p.both(-1), 3);
        CHECK.due("17 the 0th", p.both(0), 0);
        CHECK.due("17 the 1st", p.both(1), 6);
        CHECK.due("17 the 2nd", p.both(2), 12);
        CHECK.due("17 the 3rd", p.both(3), TwoPrints.NONE);
        CHECK.due("17 far beyond", p.both(Integer.MAX_VALUE), TwoPrints.NONE);
        CHECK.due("17 below -1", p.both(-2), TwoPrints.BAD);
        p.walks(0, 1);
        CHECK.due("17 prints don't matter", p.both(-1), 3);
        TwoPrints apart = Check.told("l12;w0 0 2 1;w1 1 2 1;");
        CHECK.due("17 none", apart.both(-1), 0);
        CHECK.due("17 none", apart.both(0), TwoPrints.NONE);
    }

    private static void tells() {
        // 0: 1 5 9; 1: 0 2 4 6 8 10; 0 limping: 1 5 8; 1 limping: 0 2 3 5 6 8 9
        TwoPrints p = Check.told("l10;w0 1 4 1;w1 0 2 1;");
        int[][] due = {{-9, 0, 8, 0}, {0, -9, 0, 3}, {8, 0, -9, 0}, {0, 3, 0, -9}};
        for (int a = 0; a < 4; a++) {
            for (int b = 0; b < 4; b++) {
                CHECK.due("18 tells(" + a + ", " + b + ")", p.tells(a, b), due[a][b]);
            }
        }
        CHECK.due("18 only the longer one has it", Check.told("l5;w0 0 3 1;").tells(0, 2), 5);
        int[][] wrong = {{-1, 0}, {4, 0}, {0, -1}, {0, 4}};
        for (int[] w : wrong) {
            CHECK.due("18 tells(" + w[0] + ", " + w[1] + ")", p.tells(w[0], w[1]), TwoPrints.BAD);
        }
    }

    private static void left() {
        TwoPrints p = Check.told("l12;w0 0 2 1;w1 0 3 1;");
        p.walks(0, 1);
        p.rains(4);
        p.walks(0, 0);
        // 0 2 4 6 8 10 12 at 9; 3 5 9 11 at 5 (limping: 0 2 3 5 6 8 9 11 12)
        int[] due = {11, 11, 11, 11, 11, 7, 7, 7, 7, 0};
        for (int n = 0; n <= 9; n++) {
            CHECK.due("19 left(0, " + n + ")", p.left(0, n), due[n]);
            CHECK.due("19 left(1, " + n + ")", p.left(1, n), 0);
        }
        CHECK.due("19 nothing is changed", p.walker(0, 4), 11);
        int[][] wrong = {{-1, 0}, {2, 0}, {0, -1}, {0, 10}};
        for (int[] w : wrong) {
            CHECK.due("19 left(" + w[0] + ", " + w[1] + ")", p.left(w[0], w[1]), TwoPrints.BAD);
        }
    }

    private static void jumps() {
        TwoPrints p = Check.told("l20;w0 4 8 1;w1 1 9 1;");
        CHECK.due("20 none", p.jumps(60, 0), 0);
        CHECK.due("20 none", p.jumps(60, 1), TwoPrints.NONE);
        p.walks(0, 0);
        CHECK.due("20 none of 1's", p.jumps(60, 1), TwoPrints.NONE);
        p.walks(1, 0);
        // 0: 4 12 20; 1: 1 10 19
        int[] many = {0, 1, 2, 3, 3, 3, 4, 5, 5, 5, 6, 7};
        int[] first = {-9, 2019, 1210, 401, 401};
        for (int d = 0; d < many.length; d++) {
            CHECK.due("20 jumps(" + d + ", 0)", p.jumps(d, 0), many[d]);
        }
        for (int d = 0; d < first.length; d++) {
            CHECK.due("20 jumps(" + d + ", 1)", p.jumps(d, 1), first[d]);
        }
        CHECK.due("20 jumps(60, 0)", p.jumps(60, 0), 9);
        CHECK.due("20 the lowest of 1's, though another is nearer", p.jumps(15, 1), 401);
        TwoPrints same = Check.told("l20;w0 6 9 1;w1 0 3 1;");
        same.walks(0, 0);
        same.walks(1, 0);
        CHECK.due("20 on the same foot", same.jumps(0, 0), 2);
        CHECK.due("20 on the same foot", same.jumps(0, 1), 606);
        CHECK.due("20 lower ones of 1's first", same.jumps(4, 1), 603);
        int[][] wrong = {{-1, 0}, {61, 0}, {0, -1}, {0, 2}};
        for (int[] w : wrong) {
            CHECK.due("20 jumps(" + w[0] + ", " + w[1] + ")", p.jumps(w[0], w[1]), TwoPrints.BAD);
        }
    }

    /** The answers of child(d, ..) from -2 on. */
    private static void childIs(String what, TwoPrints p, int d, int... due) {
        for (int i = 0; i < due.length; i++) {
            CHECK.due("21 " + what + ": child(" + d + ", " + (i - 2) + ")", p.child(d, i - 2), due[i]);
        }
    }

    private static void childOnFewPrints() {
        TwoPrints p = Check.told("l5;w0 5 2 1;w1 5 2 1;");
        childIs("no prints", p, 60, 0, -9, -9, -9);
        p.walks(1, 0);
        childIs("one print", p, 0, 1, 0, 105, -5, -5);
        p.walks(0, 0);
        childIs("two on one foot", p, 0, 2, 0, 5, -5, -5);
        childIs("two on one foot", p, 60, 2, 0, 5, -5, -5);
        TwoPrints alone = Check.told("l20;");
        alone.walks(0, 0);
        childIs("one walker alone", alone, 60, 0, -9, -9, -9);
    }

    private static void childRows() {
        // 0: 4 12 20; 1: 1 10 19
        TwoPrints p = Check.told("l20;w0 4 8 1;w1 1 9 1;");
        p.walks(0, 0);
        p.walks(1, 0);
        childIs("too short", p, 6, 0, -9, -9, -9);
        childIs("each in turn", p, 7, 1, 5, 101, 4, 110, 12, 119, 20, -5);
        childIs("by one", p, 19, 1, 1, 101, 20, -5);
        childIs("by three", p, 10, 1, 3, 101, 4, 110, 20, -5);
        // 0: 0 5 10; 1: 0 2 4 6 8 10: on foot 0 and 10 there are both
        TwoPrints both = Check.told("l10;w0 0 5 1;w1 0 2 1;");
        both.walks(0, 0);
        both.walks(1, 0);
        childIs("both begin, both end", both, 10, 2, 1, 0, 110, -5);
        childIs("the other one's beginning is nearer", both, 5, 1, 2, 100, 5, 110, -5);
        childIs("as near from either", both, 6, 3, 2, 0, 104, 10, -5);
        CHECK.due("21 the foot itself: 0 jumps on", both.child(0, -1), TwoPrints.NONE);
        // 0: 0 8; 1: 8: from 0 to either print on 8
        TwoPrints end = Check.told("l8;w0 0 8 1;w1 8 2 1;");
        end.walks(0, 0);
        end.walks(1, 0);
        childIs("the other walker's print ends it", end, 8, 1, 1, 0, 108, -5);
        // on the same foot it can change over: 0: 0 3 6 9; 1: 3 9
        TwoPrints over = Check.told("l9;w0 0 3 1;w1 3 6 1;");
        over.walks(0, 0);
        over.walks(1, 0);
        // 0 -> 1's 3 -> 0's 3, 6 or 9 within 6: 9 ends it
        childIs("by two", over, 6, 1, 2, 0, 103, 9, -5);
        // within 3: 0, 103, then 3 or 6 of 0's, then 109: only 6 gets there
        childIs("by three", over, 3, 1, 3, 0, 103, 6, 109, -5);
        // 0: 0 2; 1: 3 5: it would have to go back from 3 to 2
        TwoPrints back = Check.told("l5;w0 0 2 1;w1 3 2 1;");
        back.walks(0, 0);
        back.walks(1, 0);
        back.fills(0, 4);
        childIs("not back", back, 3, 0, -9, -9, -9);
        childIs("but on", back, 5, 1, 1, 0, 105, -5);
    }

    private static void childManyWays() {
        // both on each second foot: each jump goes on by 2, so 30 of them; two to begin with
        TwoPrints p = Check.told("l60;w0 0 2 1;w1 0 2 1;");
        p.walks(0, 0);
        p.walks(1, 0);
        CHECK.due("21 thirty jumps", p.child(2, -1), 30);
        CHECK.due("21 two rows", p.child(2, -2), 2);
        CHECK.due("21 the first", p.child(2, 0), 0);
        CHECK.due("21 in turn", p.child(2, 1), 102);
        CHECK.due("21 the last", p.child(2, 30), 60);
        CHECK.due("21 not so many", p.child(2, 31), -5);
        CHECK.due("21 far beyond", p.child(2, Integer.MAX_VALUE), -5);
        // 30 steps of 2 feet: by 7 feet 3 of them a jump, by 9 feet 4, where 2 are lacking
        CHECK.due("21 by 7 feet", p.child(7, -1), 10);
        CHECK.due("21 by 9 feet", p.child(9, -1), 8);
        CHECK.due("21 C(9, 2) ways to lack two steps, twice", p.child(9, -2), 2 * (8 * 9 / 2));
        CHECK.due("21 as low as it can stay", p.child(9, 1), 104);
        CHECK.due("21 then by 8 again and again", p.child(9, 2), 12);
        // both tread on nearly each foot: there are 24093536856 rows
        TwoPrints more = Check.told("l60;w0 0 2 1;w1 1 2 1;");
        for (int k = 0; k < 2; k++) {
            more.walks(k, 0);
            more.walks(k, 1);
        }
        CHECK.due("21 forty jumps", more.child(2, -1), 40);
        CHECK.due("21 modulo 1000003", more.child(2, -2), (int) (24093536856L % 1000003));
    }

    /** Where a print is on the lowest or the highest foot that there is, or is the shallowest. */
    private static void atTheEdges() {
        TwoPrints p = Check.told("l60;w0 0 5 1;w1 0 6 1;");
        p.walks(0, 0);
        p.walks(1, 0);
        p.rains(8);
        for (int x = 1; x < 60; x++) {
            p.fills(0, x);
            p.fills(1, x);
        }
        CHECK.due("20 on foot 0 and on 60", p.jumps(0, 0), 2);
        CHECK.due("20 all twos", p.jumps(60, 0), 4);
        CHECK.due("20 all but the far ones", p.jumps(59, 0), 2);
        CHECK.due("20 the first is on foot 0", p.jumps(60, 1), 0);
        CHECK.due("19 the shallowest count", p.left(0, 0), 2);
        CHECK.due("19 by rain of 1 they are gone", p.left(0, 1), 0);
        CHECK.due("8 they are of both", p.now(0), 2);
        CHECK.due("8 and gone by rain of 1", p.now(1), 1);
        childIs("from foot 0 to 60", p, 60, 2, 1, 0, 160, -5);
        childIs("59 is too short", p, 59, 0, -9, -9);
        p.fills(0, 0);
        CHECK.due("20 the first is 60, 0", p.jumps(60, 1), 6000);
        childIs("from 1's print", p, 60, 1, 1, 100, 60, -5);
        p.cows(58);
        childIs("on foot 0 alone", p, 0, 1, 0, 100, -5);
    }

    private static void childWrong() {
        TwoPrints p = new TwoPrints();
        int[][] wrong = {{-1, 0}, {61, 0}, {0, -3}, {60, Integer.MIN_VALUE}};
        for (int[] w : wrong) {
            CHECK.due("21 child(" + w[0] + ", " + w[1] + ")", p.child(w[0], w[1]), TwoPrints.BAD);
        }
        CHECK.due("21 child(60, 0)", p.child(60, 0), TwoPrints.NONE);
        CHECK.due("21 child(0, -2)", p.child(0, -2), 0);
    }
}
