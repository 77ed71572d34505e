/** The edges of promises 5 to 15: TRACKS that are walked, DEPTH, GIFTS, RAIN, SNOW, COWS, prints FILLED, and UNDONE. */
public final class PrintEdgesTest {
    private static final Check CHECK = new Check();

    public static void main(String[] args) {
        walkerOfNothing();
        tracksUpToTheEnd();
        limpingUpToTheEnd();
        aTrackWithoutFeet();
        depthIsNineAtMost();
        depthIsZeroAtLeast();
        giftsAreTakenAtEitherEnd();
        takenAtMost();
        oneGiftAtMost();
        giftsOnEitherEnd();
        giftsStayInRain();
        rainOnNothing();
        snowOnNothing();
        snowEndsAll();
        cowsOnTheLastFeet();
        cowsOnThreeFeetAlone();
        cowsOnGiftsAlone();
        fillsOfEachDepth();
        fillsItsGiftAlone();
        owes();
        peace();
        CHECK.end();
    }

    private static void depths(String what, TwoPrints p, int k, String due) {
        CHECK.due(what + ": LENGTH", p.count(0), due.length() - 1);
        for (int x = 0; x < due.length(); x++) {
            CHECK.due(what + ": depth(" + k + ", " + x + ")", p.depth(k, x), due.charAt(x) - '0');
        }
    }

    /** Both have a print on each of the last four feet of the longest path, and of the shortest one. */
    private static TwoPrints trodden(String length) {
        TwoPrints p = Check.told(length + "w0 0 2 1;w1 0 2 1;");
        for (int k = 0; k < 2; k++) {
            p.walks(k, 0);
            p.walks(k, 1);
        }
        return p;
    }

    private static void walkerOfNothing() {
        for (TwoPrints p : new TwoPrints[] {new TwoPrints(), Check.told("l5;"), Check.told("l60;")}) {
            for (int k = 0; k < 2; k++) {
                for (int what = 3; what <= 6; what++) {
                    CHECK.due("5 nothing yet: walker(" + k + ", " + what + ")", p.walker(k, what), 0);
                }
                CHECK.due("6 the first foot", p.depth(k, 0), 0);
                CHECK.due("6 the last foot", p.depth(k, p.count(0)), 0);
                CHECK.due("7 the first foot", p.gift(k, 0), 0);
                CHECK.due("7 the last foot", p.gift(k, p.count(0)), 0);
            }
        }
        TwoPrints most = trodden("l60;");
        // each second foot, and of the others those that leave 0 or 2 by 3
        CHECK.due("5 the most PRINTS that one can have", most.walker(0, 4), 51);
        CHECK.due("8 the most feet of both", most.now(0), 51);
    }

    private static void walked(String text, int limping, String due) {
        TwoPrints p = Check.told(text);
        int many = due.replace("0", "").length();
        CHECK.due("9 walks(0, " + limping + ") on " + text, p.walks(0, limping), many);
        depths("9 walks(0, " + limping + ") on " + text, p, 0, due);
        CHECK.due("5 PRINTS on " + text, p.walker(0, 4), many);
    }

    /** "TRACK of a WALKER: START, and on by STRIDE again and again, up to LENGTH" */
    private static void tracksUpToTheEnd() {
        walked("l5;w0 0 5 1;", 0, "900009");
        walked("l5;w0 0 6 1;", 0, "900000");
        walked("l6;w0 0 6 1;", 0, "9000009");
        walked("l5;w0 5 2 1;", 0, "000009");
        walked("l5;w0 4 2 1;", 0, "000090");
        walked("l5;w0 3 2 1;", 0, "000909");
        walked("l9;w0 9 9 1;", 0, "0000000009");
        walked("l8;w0 9 9 1;", 0, "000000000");
        walked("l18;w0 9 9 1;", 0, "0000000009000000009");
        walked("l17;w0 9 9 1;", 0, "000000000900000000");
        TwoPrints p = Check.told("l60;w0 0 2 1;w1 9 9 1;");
        CHECK.due("9 the most feet by STRIDE", p.walks(0, 0), 31);
        CHECK.due("9 the last foot of all", p.depth(0, 60), 9);
        CHECK.due("9 the most feet LIMPING", p.walks(0, 1), 41);
        CHECK.due("9 the fewest of the longest path", p.walks(1, 0), 6);
    }

    /** "LIMPING: each second step (the second, the fourth ..) is 1 foot shorter" */
    private static void limpingUpToTheEnd() {
        walked("l5;w0 0 3 1;", 1, "900909");
        walked("l6;w0 0 3 1;", 1, "9009090");
        walked("l7;w0 0 4 1;", 1, "90009009");
        walked("l8;w0 0 3 1;", 1, "900909009");
        walked("l10;w0 0 3 1;", 1, "90090900909");
        walked("l6;w0 0 2 1;", 1, "9099099");
        walked("l9;w0 1 2 1;", 1, "0909909909");
        walked("l17;w0 0 9 1;", 1, "900000000900000009");
        walked("l16;w0 0 9 1;", 1, "90000000090000000");
        walked("l5;w0 5 2 1;", 1, "000009");
    }

    /** A START behind the end: no feet, and a walk all the same. */
    private static void aTrackWithoutFeet() {
        for (int limping = 0; limping < 2; limping++) {
            TwoPrints p = Check.told("l5;w0 6 2 1;w1 9 9 9;");
            for (int k = 0; k < 2; k++) {
                CHECK.due("9 he trod on none", p.walks(k, limping), 0);
                CHECK.due("9 one walk more", p.walker(k, 3), 1);
                CHECK.due("9 no PRINTS", p.walker(k, 4), 0);
                CHECK.due("15 it may be undone", p.now(3), k + 1);
            }
            CHECK.due("15 undone", p.undo(), 1);
            CHECK.due("15 his walk is gone", p.walker(1, 3), 0);
            CHECK.due("15 the other one's is not", p.walker(0, 3), 1);
        }
    }

    /** "DEPTH (.. 0 .. 9 ..)": trodden on again it is 9 again, no more. */
    private static void depthIsNineAtMost() {
        TwoPrints p = Check.told("l5;w0 0 5 1;");
        for (int n = 1; n <= 3; n++) {
            p.walks(0, 0);
            depths("9 walked " + n + " times", p, 0, "900009");
            CHECK.due("9 WALKS", p.walker(0, 3), n);
        }
        p.rains(1);
        depths("11 rain of 1", p, 0, "800008");
        p.walks(0, 0);
        depths("9 walked again", p, 0, "900009");
        p.rains(8);
        p.walks(0, 1);
        depths("9 from 1 to 9", p, 0, "900009");
    }

    /** "RAIN of n (1 .. 9): each PRINT is n less deep (0 at least)": each DEPTH by each RAIN. */
    private static void depthIsZeroAtLeast() {
        for (int deep = 0; deep <= 9; deep++) {
            for (int n = 1; n <= 9; n++) {
                TwoPrints p = Check.told("l5;w0 0 5 1;w1 1 4 1;");
                p.walks(0, 0);
                p.walks(1, 0);
                if (deep < 9) {
                    p.rains(9 - deep);
                }
                int rest = Math.max(0, deep - n);
                String what = "11 DEPTH " + deep + " by rain of " + n;
                CHECK.due(what + ": PRINTS left", p.rains(n), rest > 0 ? 4 : 0);
                depths(what, p, 0, rest + "0000" + rest);
                depths(what, p, 1, "0" + rest + "000" + rest);
                p.walks(0, 0);
                depths(what + ", walked again", p, 0, "900009");
                CHECK.due(what + ", rained on again", p.rains(9), 0);
                depths(what + ", rained on again", p, 0, "000000");
            }
        }
    }

    private static void giftsAreTakenAtEitherEnd() {
        TwoPrints p = Check.told("l60;w0 0 5 1;w1 0 6 1;");
        for (int k = 0; k < 2; k++) {
            p.walks(k, 0);
            CHECK.due("10 into the first PRINT", p.gives(1 - k, 0), 1);
            CHECK.due("10 into the last PRINT", p.gives(1 - k, 60), 2);
            CHECK.due("7 on the first foot", p.gift(k, 0), 1);
            CHECK.due("7 on the last foot", p.gift(k, 60), 1);
            CHECK.due("7 for him alone", p.gift(1 - k, 60), 0);
            CHECK.due("5 two lie for him", p.walker(k, 5), 2);
            p.walks(k, 0);
            CHECK.due("9 both are taken", p.walker(k, 6), 2);
            CHECK.due("9 none lies there", p.walker(k, 5), 0);
        }
    }

    /** "counted; 9999 at most". An object is used for 512 calls at most, so nobody but this test comes so far. */
    private static void takenAtMost() {
        TwoPrints p = Check.told("l6;");
        p.walks(1, 0);
        for (int n = 0; n < 3332; n++) {
            takesThree(p);
        }
        CHECK.due("9 TAKEN", p.walker(1, 6), 9996);
        p.gives(0, 0);
        p.gives(0, 3);
        p.walks(1, 0);
        CHECK.due("9 TAKEN, one less than the most", p.walker(1, 6), 9998);
        takesThree(p);
        CHECK.due("9 TAKEN, the most", p.walker(1, 6), 9999);
        CHECK.due("9 those beyond are taken, not counted", p.walker(1, 5), 0);
        takesThree(p);
        CHECK.due("9 it stays", p.walker(1, 6), 9999);
        CHECK.due("8 1 took more", p.now(2), 10);
    }

    private static void takesThree(TwoPrints p) {
        // WALKS would come to 999 otherwise
        p.snows();
        p.walks(1, 0);
        for (int x = 0; x <= 6; x += 3) {
            p.gives(0, x);
        }
        p.walks(1, 0);
    }

    /** "one lies there at most" */
    private static void oneGiftAtMost() {
        TwoPrints p = Check.told("l5;w0 0 5 1;w1 0 5 1;");
        p.walks(0, 0);
        p.walks(1, 0);
        CHECK.due("10 the first", p.gives(0, 5), 1);
        CHECK.due("10 a second one", p.gives(0, 5), TwoPrints.STATE);
        CHECK.due("10 still one", p.walker(1, 5), 1);
        CHECK.due("10 one for the other on the same foot", p.gives(1, 5), 1);
        p.rains(3);
        CHECK.due("10 behind rain it lies there still", p.gives(0, 5), TwoPrints.STATE);
        p.walks(1, 0);
        CHECK.due("10 it was taken: there is room", p.gives(0, 5), 1);
        CHECK.due("9 one was taken", p.walker(1, 6), 1);
        CHECK.due("15 undone", p.undo(), 6);
        CHECK.due("10 room again", p.gives(0, 5), 1);
    }

    private static void giftsOnEitherEnd() {
        TwoPrints p = trodden("l5;");
        p.rains(8);
        // 0 2 3 4 5
        int[] due = {1, TwoPrints.STATE, 2, 3, 4, 5, TwoPrints.BAD};
        for (int x = 0; x <= 6; x++) {
            CHECK.due("10 gives(0, " + x + ") into the shallowest PRINT", p.gives(0, x), due[x]);
        }
        CHECK.due("10 as many as there are PRINTS", p.walker(1, 5), p.walker(1, 4));
        CHECK.due("10 gives(0, -1)", p.gives(0, -1), TwoPrints.BAD);
    }

    /** "(GIFTS stay)" */
    private static void giftsStayInRain() {
        TwoPrints p = Check.told("l5;w0 0 5 1;w1 0 4 1;");
        p.walks(0, 0);
        p.gives(1, 0);
        p.gives(1, 5);
        CHECK.due("11 no PRINT is left", p.rains(9), 0);
        CHECK.due("11 the GIFTS are", p.walker(0, 5), 2);
        CHECK.due("10 there is no PRINT any more", p.gives(1, 0), TwoPrints.STATE);
        CHECK.due("14 nor can it be filled", p.fills(0, 0), TwoPrints.STATE);
        CHECK.due("9 he treads there again", p.walks(0, 0), 2);
        CHECK.due("9 and takes them", p.walker(0, 6), 2);
    }

    private static void rainOnNothing() {
        TwoPrints p = new TwoPrints();
        CHECK.due("11 the least", p.rains(1), 0);
        CHECK.due("11 the most", p.rains(9), 0);
        CHECK.due("11 none", p.rains(0), TwoPrints.BAD);
        CHECK.due("11 too much", p.rains(10), TwoPrints.BAD);
        CHECK.due("15 both may be undone", p.now(3), 2);
    }

    private static void snowOnNothing() {
        TwoPrints p = new TwoPrints();
        CHECK.due("12 there were none", p.snows(), 0);
        CHECK.due("12 there were none", p.snows(), 0);
        CHECK.due("15 both may be undone", p.now(3), 2);
        TwoPrints most = trodden("l60;");
        CHECK.due("12 there were the most", most.snows(), 102);
        CHECK.due("12 none is left", most.snows(), 0);
        CHECK.due("12 on the last foot neither", most.depth(1, 60), 0);
    }

    /** "SNOW: there are no PRINTS, no GIFTS, no WALKS (what was TAKEN stays counted)" */
    private static void snowEndsAll() {
        TwoPrints p = trodden("l60;");
        for (int k = 0; k < 2; k++) {
            p.gives(1 - k, 0);
            p.gives(1 - k, 60);
            p.walks(k, 0);
            p.gives(1 - k, 0);
            p.gives(1 - k, 60);
        }
        p.snows();
        for (int k = 0; k < 2; k++) {
            int[] due = {0, 0, 0, 2};
            for (int what = 3; what <= 6; what++) {
                CHECK.due("12 walker(" + k + ", " + what + ")", p.walker(k, what), due[what - 3]);
            }
        }
        CHECK.due("15 undo", p.undo(), 7);
        CHECK.due("15 WALKS again", p.walker(0, 3), 3);
        CHECK.due("15 GIFTS again", p.walker(1, 5), 2);
        CHECK.due("15 PRINTS again", p.walker(1, 4), 51);
    }

    /** "on it and the two beyond it (those there are)" */
    private static void cowsOnTheLastFeet() {
        int[] spoilt = {6, 6, 4, 2};
        for (int i = 0; i < 4; i++) {
            for (int length : new int[] {60, 5}) {
                TwoPrints p = trodden("l" + length + ";");
                int had = p.walker(0, 4);
                int x = length - 3 + i;
                CHECK.due("13 cows(" + x + ") of " + length, p.cows(x), spoilt[i]);
                CHECK.due("13 the others are left", p.walker(0, 4), had - spoilt[i] / 2);
                CHECK.due("13 the foot ahead of it", p.depth(0, x - 1), x - 1 == 1 ? 0 : 9);
                CHECK.due("13 none is left to be spoilt", p.cows(x), 0);
                CHECK.due("15 both may be undone", p.now(3), 6);
            }
        }
        TwoPrints p = trodden("l60;");
        CHECK.due("13 beyond the end", p.cows(61), TwoPrints.BAD);
        CHECK.due("13 ahead of the beginning", p.cows(-1), TwoPrints.BAD);
        CHECK.due("13 on the first feet, 0 and 2", p.cows(0), 4);
        CHECK.due("13 foot 3 is as it was", p.depth(1, 3), 9);
    }

    private static void cowsOnThreeFeetAlone() {
        TwoPrints p = trodden("l10;");
        for (int k = 0; k < 2; k++) {
            for (int x = 0; x <= 10; x++) {
                p.gives(k, x);
            }
        }
        // foot 1 and foot 7 have no prints
        CHECK.due("13 cows(3)", p.cows(3), 6);
        for (int k = 0; k < 2; k++) {
            depths("13 walker " + k, p, k, "90900090999");
            for (int x = 0; x <= 10; x++) {
                boolean isLeft = p.depth(k, x) > 0;
                CHECK.due("13 gift(" + k + ", " + x + ")", p.gift(k, x), isLeft ? 1 : 0);
            }
            CHECK.due("13 WALKS stay", p.walker(k, 3), 2);
        }
    }

    private static void cowsOnGiftsAlone() {
        for (int x = 0; x <= 5; x++) {
            TwoPrints p = trodden("l5;");
            p.gives(0, 5);
            p.gives(1, 0);
            p.rains(9);
            CHECK.due("13 no PRINT is spoilt by cows(" + x + ")", p.cows(x), 0);
            CHECK.due("13 a GIFT on the last foot", p.gift(1, 5), x >= 3 ? 0 : 1);
            CHECK.due("13 a GIFT on the first foot", p.gift(0, 0), x == 0 ? 0 : 1);
        }
    }

    private static void fillsOfEachDepth() {
        for (int deep = 1; deep <= 9; deep++) {
            TwoPrints p = Check.told("l60;w0 0 5 1;w1 0 6 1;");
            p.walks(0, 0);
            p.walks(1, 0);
            if (deep < 9) {
                p.rains(9 - deep);
            }
            for (int k = 0; k < 2; k++) {
                CHECK.due("14 the first foot", p.fills(k, 0), deep);
                CHECK.due("14 the last foot", p.fills(k, 60), deep);
                CHECK.due("14 there is none any more", p.fills(k, 60), TwoPrints.STATE);
                CHECK.due("14 nor here", p.fills(k, 0), TwoPrints.STATE);
                CHECK.due("14 the others are left", p.walker(k, 4), k == 0 ? 11 : 9);
            }
        }
    }

    /** "a PRINT of a WALKER on a foot is none any more, nor a GIFT in it" */
    private static void fillsItsGiftAlone() {
        TwoPrints p = trodden("l5;");
        for (int k = 0; k < 2; k++) {
            p.gives(k, 4);
            p.gives(k, 5);
        }
        CHECK.due("14 fills", p.fills(1, 5), 9);
        CHECK.due("14 its GIFT", p.gift(1, 5), 0);
        CHECK.due("14 his GIFT beside it", p.gift(1, 4), 1);
        CHECK.due("14 the other one's GIFT", p.gift(0, 5), 1);
        CHECK.due("14 the other one's PRINT", p.depth(0, 5), 9);
        CHECK.due("10 no PRINT, no GIFT", p.gives(0, 5), TwoPrints.STATE);
        p.walks(1, 1);
        CHECK.due("9 nothing was to be taken there", p.walker(1, 6), 0);
    }

    /** "NONE (as many)": none, one, and as many again. */
    private static void owes() {
        TwoPrints p = Check.told("l5;w0 0 5 1;w1 0 5 1;");
        CHECK.due("8 nobody took anything", p.now(2), TwoPrints.NONE);
        p.walks(0, 0);
        p.walks(1, 0);
        p.gives(0, 0);
        CHECK.due("8 it lies there still", p.now(2), TwoPrints.NONE);
        p.walks(1, 0);
        CHECK.due("8 1 took one more", p.now(2), 10);
        p.gives(1, 0);
        p.walks(0, 0);
        CHECK.due("8 one each", p.now(2), TwoPrints.NONE);
        p.gives(1, 0);
        p.walks(0, 0);
        CHECK.due("8 0 took one more", p.now(2), 1);
        p.snows();
        CHECK.due("8 snow leaves it so", p.now(2), 1);
        p.undo();
        p.undo();
        CHECK.due("8 undone", p.now(2), TwoPrints.NONE);
    }

    /** "PEACE: the least RAIN (0 .. 9) by which there is no foot with PRINTS of both": each of them. */
    private static void peace() {
        for (int rain = 0; rain <= 9; rain++) {
            for (int k = 0; k < 2; k++) {
                peaceOnFootZero(k, rain);
                // they meet on the last foot alone; k's print there is the shallower one
                TwoPrints p = Check.told("l60;w0 0 5 1;w1 4 8 1;");
                p.walks(k, 0);
                if (rain > 0) {
                    p.rains(rain);
                }
                p.walks(1 - k, 0);
                p.cows(20);
                CHECK.due("8 PEACE behind rain of " + rain, p.now(1), 9 - rain);
                CHECK.due("8 feet of both", p.now(0), rain == 9 ? 0 : 1);
                if (rain < 9) {
                    p.rains(9 - rain);
                    CHECK.due("8 there is peace", p.now(0), 0);
                    CHECK.due("8 without any rain", p.now(1), 0);
                    p.undo();
                }
                if (rain < 8) {
                    p.rains(8 - rain);
                    CHECK.due("8 one less is not enough", p.now(0), 1);
                    CHECK.due("8 one is lacking", p.now(1), 1);
                }
            }
        }
    }

    private static void peaceOnFootZero(int k, int rain) {
        TwoPrints p = Check.told("l5;w0 0 5 1;w1 0 4 1;");
        p.walks(k, 0);
        if (rain > 0) {
            p.rains(rain);
        }
        p.walks(1 - k, 0);
        CHECK.due("8 PEACE on foot 0 alone, behind rain of " + rain, p.now(1), 9 - rain);
        CHECK.due("8 foot 0 alone is of both", p.now(0), rain == 9 ? 0 : 1);
    }
}
