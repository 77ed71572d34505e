/** The edges of promises 22 to 24: minutes of GO, ODDS of few and of many PRINTS, ONE PATH in no and in five days. */
public final class GoEdgesTest {
    private static final Check CHECK = new Check();
    private static final int NONE = TwoPrints.NONE;

    public static void main(String[] args) {
        firstAndLastMinutes();
        aheadNotInTheSameMinute();
        turnsOfThePlank();
        turnsBeyondTheLastMinute();
        byTheEnd();
        cutUpwards();
        noMinuteAtAll();
        oddsOfSureAndNever();
        oddsOfFewerPrints();
        oddsOfTheFirstSix();
        oddsInLeastTerms();
        onePathInNoDays();
        onePathJustEnough();
        onePathOfSureAndNever();
        onePathInLeastTerms();
        CHECK.end();
    }

    private static void goIs(String what, TwoPrints p, int k, int o, int e, int... due) {
        for (int i = 0; i < due.length; i++) {
            CHECK.due("22 " + what + ": go(" + k + ", " + o + ", " + e + ", " + i + ")", p.go(k, o, e, i), due[i]);
        }
    }

    /** "minutes m 0 .. 99 in which he should go" */
    private static void firstAndLastMinutes() {
        // the other one is at the beech in minute 159 or 60; 0 comes in m + 7
        TwoPrints p = Check.told("l60;w0 0 2 9;w1 0 2 1;b60;p0;t9;");
        goIs("turns of 9 minutes: 0 .. 8, 18 .. 26, .., 90 .. 98", p, 0, 99, 199, 54, 0, 98);
        TwoPrints other = Check.told("l60;w0 0 2 1;w1 0 2 9;b60;p0;t9;");
        goIs("turns of 9 minutes: 9 .. 17, .., 81 .. 89, 99", other, 1, 99, 199, 46, 9, 99);
        TwoPrints each = Check.told("l60;w0 0 2 1;w1 0 2 9;b60;p0;t1;");
        goIs("each second minute", each, 1, 99, 199, 50, 1, 99);
        // o 0: he must be there ahead of minute 60: m + 7 < 60
        goIs("the other one goes at once", each, 1, 0, 199, 26, 1, 51);
        CHECK.due("22 o 100", each.go(1, 100, 199, 0), TwoPrints.BAD);
        CHECK.due("22 e 200", each.go(1, 99, 200, 0), TwoPrints.BAD);
    }

    /** "at the BEECH ahead of the other one (not in the same minute)" */
    private static void aheadNotInTheSameMinute() {
        // the beech is where they begin; the turn is 0's in minutes 0 .. 8, 18 ..
        TwoPrints p = Check.told("l5;w0 0 2 9;w1 0 2 9;b0;p0;t9;");
        goIs("nobody is ahead of minute 0", p, 0, 0, 199, 0, NONE, NONE);
        goIs("minute 0 alone", p, 0, 1, 199, 1, 0, 0);
        goIs("0 and 1", p, 0, 2, 199, 2, 0, 1);
        goIs("as long as it is his turn", p, 0, 9, 199, 9, 0, 8);
        goIs("98 is the last ahead of 99", p, 0, 99, 199, 54, 0, 98);
        goIs("1: ahead of 9 it is not his turn", p, 1, 9, 199, 0, NONE, NONE);
        goIs("1: ahead of 10", p, 1, 10, 199, 1, 9, 9);
        goIs("1: 99 is not ahead of 99", p, 1, 99, 199, 45, 9, 89);
        // at the beech 0 is one minute on, 1 is two on
        TwoPrints apart = Check.told("l5;w0 0 2 2;w1 0 2 1;b2;p0;t9;");
        goIs("m + 1 < 0 + 2", apart, 0, 0, 199, 1, 0, 0);
        goIs("m + 1 < 1 + 2", apart, 0, 1, 199, 2, 0, 1);
        goIs("m + 2 < 11 + 1", apart, 1, 11, 199, 1, 9, 9);
        goIs("m + 2 < 10 + 1", apart, 1, 10, 199, 0, NONE, NONE);
    }

    /** "in minute m the PLANK is WALKER 0's turn, if m by TURN, cut, is even, else WALKER 1's": each TURN, by minute. */
    private static void turnsOfThePlank() {
        for (int turn = 1; turn <= 9; turn++) {
            TwoPrints p = Check.told("l5;w0 0 2 9;w1 0 2 9;b0;p0;t" + turn + ";");
            int[] many = new int[2];
            for (int o = 0; o <= 99; o++) {
                for (int k = 0; k < 2; k++) {
                    CHECK.due("22 TURN " + turn + ": go(" + k + ", " + o + ")", p.go(k, o, 199, 0), many[k]);
                }
                // what minute o adds is seen by those who are ahead of o + 1
                boolean isOfZero = (o / turn) % 2 == 0;
                many[isOfZero ? 0 : 1]++;
            }
        }
    }

    private static void turnsBeyondTheLastMinute() {
        // at the plank, the last foot, in minute m + 60: 60 .. 159; at the beech, the first, in minute m
        TwoPrints p = Check.told("l60;w0 0 2 1;w1 0 2 1;b0;p60;t9;");
        // 0's are 54 .. 62, 72 .. 80, 90 .. 98, 108 .. 116, 126 .. 134, 144 .. 152
        goIs("0: m 0 .. 2, 12 .. 20, .., 84 .. 92", p, 0, 99, 199, 48, 0, 92);
        // 1's are 63 .. 71, 81 .. 89, 99 .. 107, 117 .. 125, 135 .. 143, 153 .. 158
        goIs("1: m 3 .. 11, .., 93 .. 98", p, 1, 99, 199, 51, 3, 98);
    }

    /** "at the end (LENGTH) by minute e" */
    private static void byTheEnd() {
        TwoPrints p = Check.told("l60;w0 0 2 9;w1 0 2 1;b60;p0;t9;");
        goIs("by 0", p, 0, 99, 0, 0, NONE, NONE);
        goIs("by 6, one too early", p, 0, 99, 6, 0, NONE, NONE);
        goIs("by 7", p, 0, 99, 7, 1, 0, 0);
        goIs("by 8", p, 0, 99, 8, 2, 0, 1);
        goIs("by 15", p, 0, 99, 15, 9, 0, 8);
        goIs("by 24, before his next turn", p, 0, 99, 24, 9, 0, 8);
        goIs("by 25", p, 0, 99, 25, 10, 0, 18);
        goIs("by 104", p, 0, 99, 104, 53, 0, 97);
        goIs("by 105", p, 0, 99, 105, 54, 0, 98);
        goIs("by 199", p, 0, 99, 199, 54, 0, 98);
        // 1 needs 60 minutes; his turn is 9 .. 17; he is ahead if m + 60 < 99 + 7
        goIs("1 by 68", p, 1, 99, 68, 0, NONE, NONE);
        goIs("1 by 69", p, 1, 99, 69, 1, 9, 9);
    }

    /** "foot by SPEED, cut upwards" */
    private static void cutUpwards() {
        for (int speed = 1; speed <= 9; speed++) {
            for (int length = 5; length <= 60; length++) {
                TwoPrints p = Check.told("l" + length + ";w0 0 2 " + speed + ";w1 0 2 1;b" + length + ";t9;");
                int minutes = length / speed + (length % speed == 0 ? 0 : 1);
                String what = "22 " + length + " feet by " + speed;
                CHECK.due(what + " in " + minutes, p.go(0, 99, minutes, 0), 1);
                CHECK.due(what + ", one minute less", p.go(0, 99, minutes - 1, 0), 0);
            }
        }
        // foot 0: no minute at all
        goIs("the beech on foot 0", Check.told("l5;w0 0 2 1;w1 0 2 9;b0;t9;"), 0, 1, 199, 1, 0, 0);
        goIs("the beech on foot 1", Check.told("l5;w0 0 2 1;w1 0 2 9;b1;t9;"), 0, 1, 199, 1, 0, 0);
        // the START does not matter
        goIs("START 9", Check.told("l5;w0 9 2 1;w1 9 2 9;b1;t9;"), 0, 1, 199, 1, 0, 0);
    }

    private static void noMinuteAtAll() {
        TwoPrints p = Check.told("l60;w0 0 2 1;w1 0 2 9;b60;p0;t9;");
        // 60 minutes against 7: m + 60 < o + 7
        goIs("the other one is too fast", p, 0, 53, 199, 0, NONE, NONE);
        goIs("just not", p, 0, 54, 199, 1, 0, 0);
        CHECK.due("22 what -1", p.go(0, 54, 199, -1), TwoPrints.BAD);
        CHECK.due("22 what 3", p.go(0, 54, 199, 3), TwoPrints.BAD);
    }

    private static void oddsIs(TwoPrints p, int x, int n, int upper, int lower) {
        CHECK.due("23 odds(0, " + x + ", " + n + ", 0)", p.odds(0, x, n, 0), upper);
        CHECK.due("23 odds(0, " + x + ", " + n + ", 1)", p.odds(0, x, n, 1), lower);
    }

    /** Of so many prints, from none to seven. */
    private static TwoPrints withPrints(int many) {
        TwoPrints p = Check.told("l12;w0 0 2 1;");
        p.walks(0, 0);
        for (int x = 12; x > 2 * (many - 1); x -= 2) {
            p.fills(0, x);
        }
        return p;
    }

    /** "by x (0 .. 10)": none is spoilt by 0 of 10, all are by 10 of 10. */
    private static void oddsOfSureAndNever() {
        for (int many = 0; many <= 7; many++) {
            TwoPrints p = withPrints(many);
            CHECK.due("5 PRINTS", p.walker(0, 4), many);
            for (int n = 0; n <= 6; n++) {
                oddsIs(p, 0, n, n <= many ? 1 : 0, 1);
                oddsIs(p, 10, n, n == 0 ? 1 : 0, 1);
            }
            for (int x = 0; x <= 10; x++) {
                // none at least are left: that is sure
                oddsIs(p, x, 0, 1, 1);
            }
        }
    }

    /** "(.. fewer, if there are no more)" */
    private static void oddsOfFewerPrints() {
        oddsIs(withPrints(0), 5, 1, 0, 1);
        oddsIs(withPrints(1), 5, 1, 1, 2);
        oddsIs(withPrints(1), 5, 2, 0, 1);
        oddsIs(withPrints(2), 5, 2, 1, 4);
        oddsIs(withPrints(2), 5, 1, 3, 4);
        oddsIs(withPrints(5), 5, 5, 1, 32);
        oddsIs(withPrints(5), 5, 6, 0, 1);
        oddsIs(withPrints(6), 5, 6, 1, 64);
        TwoPrints p = withPrints(6);
        p.rains(8);
        oddsIs(p, 5, 6, 1, 64);
        CHECK.due("23 the other one has none", p.odds(1, 0, 1, 0), 0);
        CHECK.due("23 the other one has none", p.odds(1, 10, 0, 0), 1);
    }

    /** "of his first 6 PRINTS": a seventh does not count. */
    private static void oddsOfTheFirstSix() {
        TwoPrints six = withPrints(6);
        TwoPrints seven = withPrints(7);
        for (int x = 0; x <= 10; x++) {
            for (int n = 0; n <= 6; n++) {
                for (int what = 0; what < 2; what++) {
                    CHECK.due("23 of seven as of six", seven.odds(0, x, n, what), six.odds(0, x, n, what));
                }
            }
        }
        oddsIs(seven, 5, 6, 1, 64);
        oddsIs(seven, 5, 1, 63, 64);
        CHECK.due("23 n 7", seven.odds(0, 5, 7, 0), TwoPrints.BAD);
    }

    private static void oddsInLeastTerms() {
        TwoPrints p = withPrints(6);
        oddsIs(p, 1, 6, 531441, 1000000);
        oddsIs(p, 1, 1, 999999, 1000000);
        oddsIs(p, 9, 6, 1, 1000000);
        oddsIs(p, 9, 1, 468559, 1000000);
        oddsIs(p, 5, 3, 21, 32);
        oddsIs(p, 8, 6, 1, 15625);
        oddsIs(p, 8, 1, 11529, 15625);
        CHECK.due("23 what 2", p.odds(0, 5, 3, 2), TwoPrints.BAD);
        CHECK.due("23 what -1", p.odds(0, 5, 3, -1), TwoPrints.BAD);
    }

    private static void onePathIs(TwoPrints p, int x, int n, int upper, int lower) {
        CHECK.due("24 onePath(" + x + ", " + n + ", 0)", p.onePath(x, n, 0), upper);
        CHECK.due("24 onePath(" + x + ", " + n + ", 1)", p.onePath(x, n, 1), lower);
    }

    /** Both have a print of that depth on each foot that they tread on. */
    private static TwoPrints asDeep(int deep) {
        TwoPrints p = Check.told("l5;w0 0 5 1;w1 0 5 1;");
        p.walks(0, 0);
        p.walks(1, 0);
        if (deep < 9) {
            p.rains(9 - deep);
        }
        return p;
    }

    /** "n (0 .. 5)": in no days it is as it is now. */
    private static void onePathInNoDays() {
        for (int x = 0; x <= 10; x++) {
            onePathIs(new TwoPrints(), x, 0, 1, 1);
            onePathIs(asDeep(0), x, 0, 1, 1);
            onePathIs(asDeep(1), x, 0, 0, 1);
            onePathIs(asDeep(9), x, 0, 0, 1);
            onePathIs(asDeep(0), x, 5, 1, 1);
        }
    }

    /** By 0 of 10 there is 1 of rain a day, by 10 of 10 there are 3: each depth by each number of days. */
    private static void onePathJustEnough() {
        for (int deep = 0; deep <= 9; deep++) {
            TwoPrints p = asDeep(deep);
            for (int n = 0; n <= 5; n++) {
                onePathIs(p, 0, n, n >= deep ? 1 : 0, 1);
                onePathIs(p, 10, n, 3 * n >= deep ? 1 : 0, 1);
            }
        }
        CHECK.due("24 n 6", asDeep(1).onePath(5, 6, 0), TwoPrints.BAD);
        CHECK.due("24 x 11", asDeep(1).onePath(11, 5, 0), TwoPrints.BAD);
    }

    private static void onePathOfSureAndNever() {
        // five days: 5 at least, so 5 deep is sure; 9 by two of 3; 8 by two (9), not by one (7)
        for (int x = 1; x <= 9; x++) {
            onePathIs(asDeep(5), x, 5, 1, 1);
            onePathIs(asDeep(4), x, 1, 0, 1);
            onePathIs(asDeep(7), x, 2, 0, 1);
        }
        onePathIs(asDeep(6), 5, 5, 31, 32);
        onePathIs(asDeep(7), 5, 5, 31, 32);
        onePathIs(asDeep(8), 5, 5, 13, 16);
        onePathIs(asDeep(9), 5, 5, 13, 16);
    }

    private static void onePathInLeastTerms() {
        onePathIs(asDeep(3), 1, 1, 1, 10);
        onePathIs(asDeep(3), 9, 1, 9, 10);
        onePathIs(asDeep(3), 5, 1, 1, 2);
        onePathIs(asDeep(2), 2, 1, 1, 5);
        onePathIs(asDeep(9), 1, 3, 1, 1000);
        onePathIs(asDeep(6), 9, 5, 99999, 100000);
        onePathIs(asDeep(6), 1, 5, 40951, 100000);
        CHECK.due("24 what 2", asDeep(1).onePath(5, 1, 2), TwoPrints.BAD);
        CHECK.due("24 what -1", asDeep(1).onePath(5, 1, -1), TwoPrints.BAD);
    }
}
