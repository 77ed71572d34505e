/** Promises 22 to 24: go, odds, onePath. */
public final class GoTest {
    private static final Check CHECK = new Check();

    public static void main(String[] args) {
        go();
        goByTheEnd();
        goWrong();
        odds();
        oddsOfFewer();
        oddsWrong();
        onePath();
        onePathWrong();
        CHECK.end();
    }

    private static void goIs(String what, TwoPrints p, int k, int o, int e, int... due) {
        for (int i = 0; i < due.length; i++) {
            CHECK.due("22 " + what + ": go(" + k + ", " + o + ", " + e + ", " + i + ")", p.go(k, o, e, i), due[i]);
        }
    }

    private static void go() {
        // 0 is at the beech (10) 5 minutes on, 1 is 4 on; at the plank (5) 3 and 2 on; at the end (20) 10 and 7 on
        TwoPrints p = Check.told("l20;w0 9 2 2;w1 9 2 3;b10;p5;t3;");
        // m + 5 < 8 + 4: m 0 .. 6; (m + 3) by 3 even: 3 .. 5
        goIs("0", p, 0, 8, 199, 3, 3, 5);
        // m + 4 < 8 + 5: m 0 .. 8; (m + 2) by 3 odd: 1 .. 3, 7 .. 9
        goIs("1", p, 1, 8, 199, 5, 1, 8);
        // by 9: m + 7 <= 9: m 0 .. 2
        goIs("1 by 9", p, 1, 8, 9, 2, 1, 2);
        goIs("1 by 7", p, 1, 8, 7, 0, TwoPrints.NONE, TwoPrints.NONE);
        goIs("0 can't be first", p, 0, 0, 199, 0, TwoPrints.NONE, TwoPrints.NONE);
        // m + 4 < 0 + 5: only m 0, of whom the turn isn't
        goIs("1 has not the turn", p, 1, 0, 199, 0, TwoPrints.NONE, TwoPrints.NONE);
        p.walks(0, 0);
        goIs("prints don't matter", p, 0, 8, 199, 3, 3, 5);
    }

    private static void goByTheEnd() {
        TwoPrints p = Check.told("l60;w0 0 2 9;w1 0 2 1;b60;p0;t1;");
        // 60 by 9 is 7 cut upwards; the other one comes in minute 159: all even m
        goIs("0", p, 0, 99, 199, 50, 0, 98);
        goIs("0 by 7", p, 0, 99, 7, 1, 0, 0);
        goIs("0 by 6", p, 0, 99, 6, 0, TwoPrints.NONE, TwoPrints.NONE);
        // m + 7 < 0 + 60: 0 .. 52
        goIs("0 ahead of one who goes at once", p, 0, 0, 199, 27, 0, 52);
        // m + 60 < 99 + 7: 0 .. 45
        goIs("1", p, 1, 99, 199, 23, 1, 45);
        goIs("1 by 0", p, 1, 99, 0, 0, TwoPrints.NONE, TwoPrints.NONE);
    }

    private static void goWrong() {
        TwoPrints p = new TwoPrints();
        int[][] wrong = {{-1, 0, 0, 0}, {2, 0, 0, 0}, {0, -1, 0, 0}, {0, 100, 0, 0}, {0, 0, -1, 0},
            {0, 0, 200, 0}, {0, 0, 0, -1}, {0, 0, 0, 3}};
        for (int[] w : wrong) {
            CHECK.due("22 wrong go", p.go(w[0], w[1], w[2], w[3]), TwoPrints.BAD);
        }
    }

    private static void oddsIs(TwoPrints p, int k, int x, int n, int upper, int lower) {
        CHECK.due("23 odds(" + k + ", " + x + ", " + n + ", 0)", p.odds(k, x, n, 0), upper);
        CHECK.due("23 odds(" + k + ", " + x + ", " + n + ", 1)", p.odds(k, x, n, 1), lower);
    }

    private static void odds() {
        TwoPrints p = Check.told("l60;");
        p.walks(0, 0);
        // 21 prints: 6 of them count
        oddsIs(p, 0, 0, 6, 1, 1);
        oddsIs(p, 0, 10, 1, 0, 1);
        oddsIs(p, 0, 10, 0, 1, 1);
        oddsIs(p, 0, 5, 6, 1, 64);
        oddsIs(p, 0, 5, 5, 7, 64);
        oddsIs(p, 0, 5, 4, 11, 32);
        oddsIs(p, 0, 5, 1, 63, 64);
        oddsIs(p, 0, 5, 0, 1, 1);
        oddsIs(p, 0, 1, 6, 531441, 1000000);
        oddsIs(p, 0, 9, 6, 1, 1000000);
        oddsIs(p, 0, 9, 1, 468559, 1000000);
        oddsIs(p, 0, 2, 6, 4096, 15625);
    }

    private static void oddsOfFewer() {
        TwoPrints p = Check.told("l6;w1 0 4 1;");
        oddsIs(p, 0, 0, 0, 1, 1);
        oddsIs(p, 0, 0, 1, 0, 1);
        p.walks(1, 0);
        // two prints
        oddsIs(p, 1, 3, 2, 49, 100);
        oddsIs(p, 1, 3, 1, 91, 100);
        oddsIs(p, 1, 3, 3, 0, 1);
        oddsIs(p, 1, 0, 2, 1, 1);
        oddsIs(p, 0, 3, 1, 0, 1);
        p.rains(8);
        oddsIs(p, 1, 4, 2, 9, 25);
        p.fills(1, 0);
        oddsIs(p, 1, 4, 1, 3, 5);
    }

    private static void oddsWrong() {
        TwoPrints p = new TwoPrints();
        int[][] wrong = {{-1, 0, 0, 0}, {2, 0, 0, 0}, {0, -1, 0, 0}, {0, 11, 0, 0}, {0, 0, -1, 0},
            {0, 0, 7, 0}, {0, 0, 0, -1}, {0, 0, 0, 2}};
        for (int[] w : wrong) {
            CHECK.due("23 wrong odds", p.odds(w[0], w[1], w[2], w[3]), TwoPrints.BAD);
        }
    }

    private static void onePathIs(TwoPrints p, int x, int n, int upper, int lower) {
        CHECK.due("24 onePath(" + x + ", " + n + ", 0)", p.onePath(x, n, 0), upper);
        CHECK.due("24 onePath(" + x + ", " + n + ", 1)", p.onePath(x, n, 1), lower);
    }

    private static void onePath() {
        TwoPrints p = Check.told("l6;");
        onePathIs(p, 0, 0, 1, 1);
        onePathIs(p, 7, 5, 1, 1);
        p.walks(0, 0);
        onePathIs(p, 0, 0, 1, 1);
        p.walks(1, 0);
        // 9 of rain: 3 days of hard rain; of 4 days 3 (10); of 5 days 2 (9)
        onePathIs(p, 5, 0, 0, 1);
        onePathIs(p, 10, 2, 0, 1);
        onePathIs(p, 10, 3, 1, 1);
        onePathIs(p, 5, 3, 1, 8);
        onePathIs(p, 5, 4, 5, 16);
        onePathIs(p, 5, 5, 13, 16);
        onePathIs(p, 0, 5, 0, 1);
        onePathIs(p, 1, 3, 1, 1000);
        onePathIs(p, 3, 5, 23589, 50000);
    }

    private static void onePathWrong() {
        TwoPrints p = new TwoPrints();
        int[][] wrong = {{-1, 0, 0}, {11, 0, 0}, {0, -1, 0}, {0, 6, 0}, {0, 0, -1}, {0, 0, 2}};
        for (int[] w : wrong) {
            CHECK.due("24 wrong onePath", p.onePath(w[0], w[1], w[2]), TwoPrints.BAD);
        }
    }
}
