/** The edges of promises 1 to 4: a new object, THE TEXT, its letters, tokens, numbers and items, FAULT, and reading anew. */
public final class TextEdgesTest {
    private static final Check CHECK = new Check();
    private static final String MAY_STAND = "lwbpt;0123456789 ";

    public static void main(String[] args) {
        asToldAtFirst();
        everyLetterCanBeTyped();
        textOf120Letters();
        fullUntilItIsEmpty();
        clearOfEmptyAndFull();
        noItems();
        mostItems();
        numbersThatMayBe();
        numbersAreToldAsTheyStand();
        zeroAheadOfOthers();
        numbersAbove99();
        otherLetters();
        tokensThatCantStandThere();
        lengthIsFirst();
        onceAtMost();
        walkerToldAgain();
        endsTooEarly();
        firstAndLastPlaces();
        blanksBetween();
        theFirstFaultCounts();
        readAnew();
        nothingOfEarlierTexts();
        CHECK.end();
    }

    private static String chars(int letter, int many) {
        return String.valueOf((char) letter).repeat(many);
    }

    private static void items(String text, int due) {
        CHECK.due("4 items of '" + text + "'", Check.read(text), due);
    }

    private static void fault(String text, int due) {
        CHECK.due("4 fault in '" + text + "'", Check.read(text), -10 - due);
    }

    /** "30 at first", "0 at first" ..: a new object is the one that a text of nothing tells, and one that tells all so. */
    private static void asToldAtFirst() {
        Whole.same(CHECK, "1 a text of nothing", () -> Check.told(""), TwoPrints::new);
        Whole.same(CHECK, "1 all told as at first", () -> Check.told("l30;w0 0 3 3;w1 0 3 3;b0;p0;t2;"), TwoPrints::new);
        TwoPrints p = new TwoPrints();
        CHECK.due("1 foot 30 is there", p.depth(1, 30), 0);
        CHECK.due("1 foot 31 is not", p.depth(1, 31), TwoPrints.BAD);
        CHECK.due("1 BEECH and PLANK on 0", p.count(1) + p.count(2), 0);
        CHECK.due("1 no image 0", p.back(0), TwoPrints.STATE);
        CHECK.due("1 no image 1", p.back(1), TwoPrints.STATE);
    }

    /** "A letter (0 .. 255)" */
    private static void everyLetterCanBeTyped() {
        TwoPrints p = new TwoPrints();
        for (int letter = 0; letter <= 255; letter++) {
            CHECK.due("2 type(" + letter + ")", p.type(letter), 1);
            CHECK.due("3 clear behind " + letter, p.clear(), 1);
        }
    }

    /** "a text (120 letters at most)" */
    private static void textOf120Letters() {
        TwoPrints p = new TwoPrints();
        CHECK.due("2 the longest text", Made.LONGEST.length(), 120);
        for (int n = 1; n <= 120; n++) {
            CHECK.due("2 the " + n + "th letter", p.type(Made.LONGEST.charAt(n - 1)), n);
        }
        CHECK.due("2 the 121st", p.type('x'), TwoPrints.FULL);
        CHECK.due("2 the 122nd", p.type('x'), TwoPrints.FULL);
        CHECK.due("2 count(5)", p.count(5), 120);
        CHECK.due("4 all 120 are read, no more", p.path(), 16);
    }

    private static void fullUntilItIsEmpty() {
        TwoPrints p = new TwoPrints();
        Check.types(p, chars(' ', 120));
        CHECK.due("2 full of blanks", p.type(' '), TwoPrints.FULL);
        CHECK.due("4 read", p.path(), 0);
        CHECK.due("2 empty behind path()", p.type('x'), 1);
        Check.types(p, chars(' ', 119));
        CHECK.due("2 full again", p.type(' '), TwoPrints.FULL);
        CHECK.due("4 a fault", p.path(), -10);
        CHECK.due("2 full as before behind a fault", p.type(' '), TwoPrints.FULL);
        CHECK.due("3 clear", p.clear(), 120);
        CHECK.due("2 empty behind clear()", p.type('x'), 1);
    }

    /** "THE TEXT is empty: how many letters it had" */
    private static void clearOfEmptyAndFull() {
        TwoPrints p = new TwoPrints();
        CHECK.due("3 empty", p.clear(), 0);
        p.type('l');
        CHECK.due("3 one letter", p.clear(), 1);
        CHECK.due("3 empty again", p.clear(), 0);
        Check.types(p, Made.LONGEST);
        CHECK.due("3 full", p.clear(), 120);
        CHECK.due("3 count(5)", p.count(5), 0);
        CHECK.due("4 nothing is told then", p.path(), 0);
        Whole.same(CHECK, "3 only THE TEXT is changed", () -> {
            TwoPrints worn = Made.worn(10);
            worn.clear();
            Check.types(worn, "t7;b2");
            return worn;
        }, () -> Made.worn(10));
    }

    private static void noItems() {
        items("", 0);
        items(" ", 0);
        items(chars(' ', 120), 0);
        items("t1;", 1);
    }

    private static void mostItems() {
        items(Made.LONGEST, 16);
        TwoPrints p = Check.told(Made.LONGEST);
        CHECK.due("4 of the first item", p.count(0), 9);
        CHECK.due("4 of the last item", p.walker(1, 2), 6);
        items("l60;w0 0 2 1;w1 9 9 9;b60;p60;t9;", 6);
        items("l5;w0 9 9 9;w1 0 2 1;b5;p5;t1;", 6);
    }

    /** Ahead of a number, the lowest and the highest that may be, and what comes behind it. */
    private static final Object[][] PLACES = {
        {"l", 5, 60, ";"},
        {"w", 0, 1, " 0 2 1;"},
        {"w0 ", 0, 9, " 2 1;"},
        {"w1 ", 0, 9, " 2 1;"},
        {"w0 0 ", 2, 9, " 1;"},
        {"w1 9 ", 2, 9, " 1;"},
        {"w0 0 2 ", 1, 9, ";"},
        {"w1 9 9 ", 1, 9, ";"},
        {"b", 0, 30, ";"},
        {"p", 0, 30, ";"},
        {"t", 1, 9, ";"},
        {"l5;b", 0, 5, ";"},
        {"l5;p", 0, 5, ";"},
        {"l59;b", 0, 59, ";"},
        {"l59;p", 0, 59, ";"},
        {"l60;b", 0, 60, ";"},
        {"l60;p", 0, 60, ";"},
        {"l60;t", 1, 9, ";"},
    };

    /** "a NUMBER beyond what it may be": all numbers up to 99, in each place that has one. */
    private static void numbersThatMayBe() {
        for (Object[] place : PLACES) {
            String ahead = (String) place[0];
            int whole = ahead.indexOf(';') >= 0 ? 2 : 1;
            for (int n = 0; n <= 99; n++) {
                String text = ahead + n + place[3];
                if (n >= (int) place[1] && n <= (int) place[2]) {
                    items(text, whole);
                } else {
                    fault(text, ahead.length());
                }
            }
        }
    }

    private static void numbersAreToldAsTheyStand() {
        for (int n = 5; n <= 60; n++) {
            TwoPrints p = Check.told("l" + n + ";b" + n + ";p" + (n - 1) + ";");
            CHECK.due("4 LENGTH", p.count(0), n);
            CHECK.due("4 BEECH at the end", p.count(1), n);
            CHECK.due("4 PLANK", p.count(2), n - 1);
            CHECK.due("4 the last foot", p.depth(0, n), 0);
            CHECK.due("4 no foot beyond", p.depth(0, n + 1), TwoPrints.BAD);
            fault("l" + n + ";b" + (n + 1) + ";", n < 10 ? 4 : 5);
            fault("l" + n + ";p" + (n + 1) + ";", n < 10 ? 4 : 5);
        }
        for (int n = 1; n <= 9; n++) {
            TwoPrints p = Check.told("t" + n + ";w0 " + n + " 2 " + n + ";w1 0 " + Math.max(2, n) + " 9;");
            CHECK.due("4 TURN", p.count(3), n);
            CHECK.due("4 START", p.walker(0, 0), n);
            CHECK.due("4 SPEED", p.walker(0, 2), n);
            CHECK.due("4 STRIDE", p.walker(1, 1), Math.max(2, n));
        }
        CHECK.due("4 START 0", Check.told("w0 0 2 1;").walker(0, 0), 0);
    }

    /** "a NUMBER .. with a 0 ahead of others": also where it would be small enough without it. */
    private static void zeroAheadOfOthers() {
        for (Object[] place : PLACES) {
            String ahead = (String) place[0];
            for (String number : new String[] {"00", "01", "02", "05", "09", "010", "000", "0" + place[1], "0" + place[2]}) {
                fault(ahead + number + place[3], ahead.length());
                fault(ahead + " " + number + " " + place[3], ahead.length() + 1);
            }
        }
        items("b0;p0;", 2);
        items("b10;p20;", 2);
    }

    /** "a NUMBER above 99": its place is that of its first letter, however long it is. */
    private static void numbersAbove99() {
        String[] numbers = {"100", "101", "105", "130", "999", "1000", "10005", "4294967301", "4294967305",
            "18446744073709551621", "99999999999999999999999999999999"};
        for (Object[] place : PLACES) {
            String ahead = (String) place[0];
            for (String number : numbers) {
                fault(ahead + number + place[3], ahead.length());
                fault(ahead + number, ahead.length());
            }
        }
        fault("t1;100;", 3);
        fault("t1 100;", 3);
        fault("100", 0);
        fault("b" + chars('1', 119), 1);
        fault(chars('9', 120), 0);
    }

    /** "of any other letter .. that TOKEN's", in each place. */
    private static void otherLetters() {
        for (int letter = 0; letter <= 255; letter++) {
            if (MAY_STAND.indexOf((char) letter) < 0) {
                String other = chars(letter, 1);
                fault(other, 0);
                fault("  " + other, 2);
                fault("t" + other, 1);
                fault("t" + other + "1;", 1);
                fault("t1" + other, 2);
                fault("t1" + other + ";", 2);
                fault("t1;" + other, 3);
                fault("t1; " + other + "b1;", 4);
                fault("w0 0 2 " + other + "1;", 7);
            }
        }
    }

    /** "the first TOKEN that can't stand there": what was told, and the tokens that may come next. */
    private static final String[][] NEXT = {
        {"", "lwbpt"},
        {"l", "9"}, {"l9", ";"}, {"l9;", "wbpt"},
        {"w", "1"}, {"w1", "91"}, {"w1 9", "9"}, {"w1 9 9", "91"}, {"w1 9 9 9", ";"}, {"w1 9 9 9;", "wbpt"},
        {"b", "91"}, {"b9", ";"}, {"b9;", "wpt"},
        {"p", "91"}, {"p9", ";"}, {"p9;", "wbt"},
        {"t", "91"}, {"t9", ";"}, {"t9;", "wbp"},
        {"b9;p9;", "wt"}, {"b9;p9;t9;", "w"}, {"l9;b9;p9;t9;", "w"}, {"b9;p9;t9;w1 9 9 9;", "w"},
    };

    private static void tokensThatCantStandThere() {
        for (String[] row : NEXT) {
            String ahead = row[0] + (row[0].isEmpty() ? "" : " ");
            for (String token : new String[] {"l", "w", "b", "p", "t", ";", "9", "1"}) {
                boolean mayStand = row[1].contains(token);
                if (mayStand && token.equals(";")) {
                    items(ahead + token, 1);
                } else {
                    // what may stand there is no ITEM yet: the text ends too early
                    fault(ahead + token, mayStand ? ahead.length() + 1 : ahead.length());
                }
            }
        }
    }

    /** "l N (LENGTH; the first of all, if it is told)", "l behind another ITEM" */
    private static void lengthIsFirst() {
        items("l5;", 1);
        items("   l5;", 1);
        items("l5;w0 0 2 1;", 2);
        for (String ahead : new String[] {"l5;", "l60;", "w0 0 2 1;", "b0;", "p0;", "t1;", "b0;p0;t1;"}) {
            fault(ahead + "l5;", ahead.length());
            fault(ahead + " l", ahead.length() + 1);
        }
        items("b30;", 1);
        fault("b31;", 1);
    }

    /** "b X .., p X .., t N (.. once at most each)", in one text. */
    private static void onceAtMost() {
        for (String letter : new String[] {"b", "p", "t"}) {
            fault(letter + "1;" + letter + "1;", 3);
            fault(letter + "1;w0 0 2 1;" + letter + "2;", 12);
            fault(letter + "1;" + letter, 3);
            TwoPrints p = Check.told(letter + "1;");
            Check.types(p, letter + "2;");
            CHECK.due("4 told again in another text: " + letter, p.path(), 1);
            Check.types(p, letter + "1;" + letter + "2;");
            CHECK.due("4 a fault: " + letter, p.path(), -13);
            p.clear();
            Check.types(p, letter + "3;");
            CHECK.due("4 told behind a fault: " + letter, p.path(), 1);
        }
    }

    /** "w K S R P (.. told again: the later)" */
    private static void walkerToldAgain() {
        TwoPrints p = Check.told("w0 1 2 3;w1 4 5 6;w0 7 8 9;");
        int[][] due = {{7, 8, 9}, {4, 5, 6}};
        for (int k = 0; k < 2; k++) {
            for (int what = 0; what < 3; what++) {
                CHECK.due("4 walker(" + k + ", " + what + ")", p.walker(k, what), due[k][what]);
            }
        }
        CHECK.due("4 the later one's TRACK", p.whose(7), 1 | 4);
        CHECK.due("4 not the earlier one's", p.whose(1), 0);
        items("w0 1 2 3;".repeat(13), 13);
        fault("w0 1 2 3;w0 1 2 10;", 16);
    }

    /** "the text's length, if it ends too early": each beginning of a text. */
    private static void endsTooEarly() {
        String[] texts = {"l 60 ; w 1 9 9 9 ; b 60 ; p 60 ; t 9 ;  ", "l60;w1 9 9 9;b60;p60;t9;"};
        for (String text : texts) {
            int whole = 0;
            for (int length = 0; length <= text.length(); length++) {
                String beginning = text.substring(0, length);
                String said = beginning.trim();
                if (said.isEmpty() || said.endsWith(";")) {
                    whole += beginning.endsWith(";") ? 1 : 0;
                    items(beginning, whole);
                } else {
                    fault(beginning, length);
                }
            }
            CHECK.due("4 five of them", whole, 5);
        }
        fault("t" + chars(' ', 119), 120);
        fault("t" + chars(' ', 118), 119);
        // the number can't stand there, so that comes ahead of the end
        fault("l4", 1);
        fault("l6 1", 3);
    }

    private static void firstAndLastPlaces() {
        fault("x" + chars(' ', 119), 0);
        fault(chars(' ', 119) + "x", 119);
        fault(chars(' ', 119) + ";", 119);
        fault(chars(' ', 119) + "t", 120);
        fault(chars(' ', 118) + "t1", 120);
        items(chars(' ', 117) + "t1;", 1);
        fault(Made.LONGEST.substring(0, 119), 119);
        fault(Made.LONGEST.substring(0, 119) + "x", 119);
        fault(Made.LONGEST.substring(0, 119) + " ", 120);
    }

    /** "blanks (32) between TOKENS": as many as there are, or none; none within a number. */
    private static void blanksBetween() {
        items("l60;w0 0 2 1;b1;p1;t1;", 5);
        items(" l  60  ;  w  0  0  2  1  ;  b  1  ;  p  1  ;  t  1  ;  ", 5);
        fault("l6 0;", 3);
        fault("l 1 0;", 2);
        fault("w0 0 21;", 5);
        fault("w00 2 1;", 1);
        fault("w0 02 1;", 3);
        fault("w 0 0 2 1", 9);
        for (int letter : new int[] {0, 9, 10, 13, 31, 33, 160, 255}) {
            fault("t" + chars(letter, 1) + "1;", 1);
        }
    }

    private static void theFirstFaultCounts() {
        fault("t0;x", 1);
        fault("xt0;", 0);
        fault("t1;t1;x", 3);
        fault("w0 10 1 0;", 3);
        fault("w2 10 1 0;", 1);
        fault("w0 0 1 0;", 5);
        fault("b31 b", 1);
        fault("b1 1 100 x", 3);
        fault("t 100 x", 2);
        fault("t 1 l x", 4);
    }

    /** "Read anew: as told, no PRINTS, GIFTS, nothing TAKEN, FOUND, IMAGES are gone": nothing of before is seen. */
    private static void readAnew() {
        for (String text : new String[] {"", "l5;", "l60;w0 9 9 9;b60;t1;", "w1 1 2 3;p30;"}) {
            Whole.same(CHECK, "4 read anew '" + text + "'", () -> {
                TwoPrints p = wornWithoutTrace();
                Check.types(p, text);
                p.path();
                return p;
            }, () -> Check.told(text));
        }
        TwoPrints p = wornWithoutTrace();
        p.rate(0, 0);
        p.path();
        CHECK.due("4 THE TRACE is not gone", p.trace(), 1);
        CHECK.due("4 FOUND is gone: six may be again", p.count(4), 0);
        for (int n = 1; n <= 6; n++) {
            CHECK.due("25 finds", p.finds(0), n);
        }
    }

    /** What a text does not tell is as at first, whatever texts before it told, also one with a fault. */
    private static void nothingOfEarlierTexts() {
        String all = "l60;w0 9 8 7;w1 6 5 4;b50;p40;t9;";
        for (String last : new String[] {"", "x", "t9;t9;"}) {
            Whole.same(CHECK, "4 behind '" + last + "' nothing is told", () -> {
                TwoPrints p = Check.told(all);
                Check.types(p, all);
                p.path();
                Check.types(p, all + last);
                p.path();
                p.clear();
                p.path();
                return p;
            }, TwoPrints::new);
        }
    }

    private static TwoPrints wornWithoutTrace() {
        TwoPrints p = Check.told("l10;w0 0 2 1;w1 0 3 1;b4;p5;t6;");
        p.walks(0, 0);
        p.walks(1, 1);
        p.gives(0, 0);
        p.walks(1, 0);
        p.keep(0);
        p.gives(0, 3);
        p.gives(1, 4);
        p.keep(1);
        p.rains(2);
        for (int n = 0; n < 6; n++) {
            p.finds(n);
        }
        return p;
    }
}
