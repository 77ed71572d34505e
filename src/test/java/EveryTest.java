/** Small worlds played through whole: all texts of a few tokens, tracks, sets of prints, depths, finds, against NaivePrints. */
public final class EveryTest {
    private static final Check CHECK = new Check();

    private final TwoPrints real = new TwoPrints();
    private final NaivePrints naive = new NaivePrints();

    public static void main(String[] args) {
        everyTextOfFewTokens();
        everyTrack();
        everySetOfPrints();
        everyDepthOfTwo();
        everyFewOfFound();
        minutesOfManyPaths();
        CHECK.end();
    }

    private static EveryTest told(String text) {
        EveryTest both = new EveryTest();
        CHECK.holds("4 '" + text + "' is without fault", both.reads(text) >= 0);
        return both;
    }

    /** What path() answers; a text with a fault is taken away again. */
    private int reads(String text) {
        for (char letter : text.toCharArray()) {
            real.type(letter);
            naive.type(letter);
        }
        int got = real.path();
        CHECK.due("4 path() of '" + text + "'", got, naive.path());
        CHECK.due("3 clear() behind '" + text + "'", real.clear(), naive.clear());
        return got;
    }

    private void walk(int k, int limping) {
        CHECK.due("9 walks(" + k + ", " + limping + ")", real.walks(k, limping), naive.walks(k, limping));
    }

    private void fill(int k, int x) {
        CHECK.due("14 fills(" + k + ", " + x + ")", real.fills(k, x), naive.fills(k, x));
    }

    private static final String[] WORDS = {"l", "w", "b", "p", "t", ";", "0", "1", "5", "9", "10", "31", "61", "05", "100", "x"};

    /** Ahead of the words: each place that a text can have come to. */
    private static final String[] AHEAD = {"", "l 60 ; ", "w 0 ", "w 1 9 ", "w 1 9 9 ", "b 0 ; ", "p 0 ; t 1 ; ",
        "b 0 ; p 0 ; t 1 ; ", "l 9 ; w 1 9 9 9 ; "};

    private static void everyTextOfFewTokens() {
        for (String ahead : AHEAD) {
            for (int words = 0; words <= 4; words++) {
                for (int number = 0; number < Math.pow(WORDS.length, words); number++) {
                    EveryTest both = new EveryTest();
                    if (both.reads(ahead + row(number, words)) >= 0) {
                        both.samePath();
                    }
                }
            }
        }
    }

    private static String row(int number, int words) {
        StringBuilder row = new StringBuilder();
        int rest = number;
        for (int i = 0; i < words; i++) {
            row.append(WORDS[rest % WORDS.length]).append(i % 2 == 0 ? " " : "  ");
            rest /= WORDS.length;
        }
        return row.toString();
    }

    private void samePath() {
        for (int what = 0; what < 6; what++) {
            CHECK.due("32 count(" + what + ")", real.count(what), naive.count(what));
        }
        for (int k = 0; k < 2; k++) {
            for (int what = 0; what < 7; what++) {
                CHECK.due("5 walker(" + k + ", " + what + ")", real.walker(k, what), naive.walker(k, what));
            }
        }
    }

    /** START, STRIDE and LENGTH of all kinds; the other walker has what this one lacks. */
    private static void everyTrack() {
        for (int length = 5; length <= 60; length += length < 12 || length > 55 ? 1 : 7) {
            for (int start = 0; start <= 9; start++) {
                for (int stride = 2; stride <= 9; stride++) {
                    String text = "l" + length + ";w0 " + start + " " + stride + " 1;w1 " + (9 - start) / 2 + " "
                        + (11 - stride) + " 1;";
                    told(text).sameTracks(text, length);
                }
            }
        }
    }

    private void sameTracks(String text, int length) {
        for (int x = -1; x <= length + 1; x++) {
            CHECK.due("16 " + text + " whose(" + x + ")", real.whose(x), naive.whose(x));
        }
        for (int k = -2; k <= naive.both(-1); k++) {
            CHECK.due("17 " + text + " both(" + k + ")", real.both(k), naive.both(k));
        }
        for (int a = 0; a < 4; a++) {
            for (int b = 0; b < 4; b++) {
                CHECK.due("18 " + text + " tells(" + a + ", " + b + ")", real.tells(a, b), naive.tells(a, b));
            }
        }
        for (int a = 0; a < 4; a++) {
            walk(a % 2, a / 2);
        }
        for (int k = 0; k < 2; k++) {
            for (int x = 0; x <= length; x++) {
                CHECK.due("6 " + text + " depth(" + k + ", " + x + ")", real.depth(k, x), naive.depth(k, x));
            }
        }
    }

    private static final int[][] FEET = {{0, 2, 3, 4, 5, 6}, {1, 3, 4, 5, 6}};

    /** All sets of the prints that two can leave on seven feet: JUMPS, CHILD, ODDS, feet of both. */
    private static void everySetOfPrints() {
        for (int set = 0; set < 1 << 11; set++) {
            EveryTest both = told("l6;w0 0 2 1;w1 1 2 1;");
            for (int a = 0; a < 4; a++) {
                both.walk(a % 2, a / 2);
            }
            for (int bit = 0; bit < 11; bit++) {
                if ((set >> bit & 1) == 0) {
                    int k = bit < 6 ? 0 : 1;
                    both.fill(k, FEET[k][bit - 6 * k]);
                }
            }
            for (int d = 0; d <= 6; d++) {
                both.sameJumps(set, d);
            }
            CHECK.due("8 set " + set + " now(0)", both.real.now(0), both.naive.now(0));
            CHECK.due("8 set " + set + " now(1)", both.real.now(1), both.naive.now(1));
        }
    }

    private void sameJumps(int set, int d) {
        String of = " set " + set + ", d " + d + ", ";
        CHECK.due("20" + of + "how many", real.jumps(d, 0), naive.jumps(d, 0));
        CHECK.due("20" + of + "the first", real.jumps(d, 1), naive.jumps(d, 1));
        int most = Math.max(0, naive.child(d, -1)) + 1;
        for (int k = -2; k <= most; k++) {
            CHECK.due("21" + of + k, real.child(d, k), naive.child(d, k));
        }
    }

    /** Prints of both on the same feet, by all depths of either: PEACE, LEFT, ONE PATH; and ODDS by as many prints. */
    private static void everyDepthOfTwo() {
        for (int first = 0; first <= 9; first++) {
            for (int second = 0; second <= 9; second++) {
                EveryTest both = told("l20;w0 0 2 1;w1 0 2 1;");
                both.walk(0, 0);
                both.rain(first);
                both.walk(1, 0);
                both.rain(second);
                // so many of his are left as the numbers say, but for those that rain took
                for (int x = 0; x < 2 * second; x += 2) {
                    both.fill(0, x);
                }
                both.sameChances("rain " + first + ", " + second + ": ");
            }
        }
    }

    private void rain(int n) {
        CHECK.due("11 rains(" + n + ")", real.rains(n), naive.rains(n));
    }

    private void sameChances(String of) {
        CHECK.due("8 " + of + "PEACE", real.now(1), naive.now(1));
        for (int n = 0; n <= 9; n++) {
            CHECK.due("19 " + of + "left(0, " + n + ")", real.left(0, n), naive.left(0, n));
            CHECK.due("19 " + of + "left(1, " + n + ")", real.left(1, n), naive.left(1, n));
        }
        for (int x = 0; x <= 10; x++) {
            for (int n = 0; n <= 6; n++) {
                for (int what = 0; what < 2; what++) {
                    String numbers = x + ", " + n + ", " + what + ")";
                    CHECK.due("23 " + of + "odds(0, " + numbers, real.odds(0, x, n, what), naive.odds(0, x, n, what));
                    CHECK.due("24 " + of + "onePath(" + numbers, real.onePath(x, n, what), naive.onePath(x, n, what));
                }
            }
        }
    }

    /** All twos and threes of feet FOUND. */
    private static void everyFewOfFound() {
        for (int x = 0; x <= 18; x++) {
            for (int y = x; y <= 18; y++) {
                for (int z = y; z <= 18; z++) {
                    EveryTest both = told("l18;w0 1 4 1;w1 0 3 1;");
                    both.find(x);
                    both.find(y);
                    if (z > y) {
                        both.find(z);
                    }
                    String of = x + ", " + y + ", " + z;
                    CHECK.due("27 who() of " + of, both.real.who(), both.naive.who());
                    CHECK.due("28 strangers(0) of " + of, both.real.strangers(0), both.naive.strangers(0));
                    CHECK.due("28 strangers(1) of " + of, both.real.strangers(1), both.naive.strangers(1));
                }
            }
        }
    }

    private void find(int x) {
        CHECK.due("25 finds(" + x + ")", real.finds(x), naive.finds(x));
    }

    private static final String[] PLACES = {"l60;", "l60;b7;p3;", "l60;b60;p60;", "l60;b1;p59;", "l5;b5;p4;"};

    private static void minutesOfManyPaths() {
        for (String places : PLACES) {
            for (int turn = 1; turn <= 9; turn++) {
                for (int speed = 1; speed <= 9; speed++) {
                    String text = places + "t" + turn + ";w0 0 2 " + speed + ";w1 9 9 " + (1 + speed * 2 % 9) + ";";
                    told(text).sameMinutes(text);
                }
            }
        }
    }

    private void sameMinutes(String text) {
        for (int o : new int[] {0, 6, 99}) {
            for (int e : new int[] {0, 20, 159, 199}) {
                for (int k = 0; k < 2; k++) {
                    for (int what = 0; what < 3; what++) {
                        String call = "22 " + text + " go(" + k + ", " + o + ", " + e + ", " + what + ")";
                        CHECK.due(call, real.go(k, o, e, what), naive.go(k, o, e, what));
                    }
                }
            }
        }
    }
}
