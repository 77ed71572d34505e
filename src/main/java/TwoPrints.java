import java.util.Arrays;

/** A path worn by two walkers who tread only in their own prints; shared/DOC.md says what each call answers. */
public final class TwoPrints {
    public static final int BAD = -1, STATE = -2, FULL = -3, NONE = -9;
    public static final int NO = -1000000;

    private static final int NOT_SO_MANY = -5;
    private static final int WALKERS = 2;
    private static final int TRACKS = 4;
    private static final int MOST_FEET = 61;
    private static final int MOST_LETTERS = 120;
    private static final int DEEPEST = 9;
    private static final int MOST_WALKS = 999;
    private static final int MOST_TAKEN = 9999;
    private static final int MOST_FOUND = 6;
    private static final int MOST_KNOWN = 8;
    private static final int IMAGES = 2;
    private static final int FARTHEST_JUMP = 60;
    private static final int LATEST_START = 99;
    private static final int LATEST_END = 199;
    private static final int COWS_WIDTH = 3;
    private static final int MOST_AT_ODDS = 6;
    private static final int MOST_DAYS = 5;
    private static final int HARD_RAIN = 3;
    private static final int SOFT_RAIN = 1;
    private static final int TENTHS = 10;
    private static final int WAYS_MODULUS = 1000003;

    private final Reader text = new Reader();
    private final Prints present = new Prints();
    private final Past past = new Past();
    private final Prints[] images = new Prints[IMAGES];
    private final boolean[] kept = new boolean[IMAGES];
    private final ChildsWay way = new ChildsWay();
    private Path laid = new Path();
    private Path draft = new Path();
    private long found;
    private int foundCount;
    private long traced;

    public TwoPrints() {
        for (int i = 0; i < IMAGES; i++) {
            images[i] = new Prints();
        }
    }

    // ---- the path

    public int type(int letter) {
        if (letter < 0 || letter > 255) {
            return BAD;
        }
        return text.append(letter) ? text.size : FULL;
    }

    public int clear() {
        int had = text.size;
        text.size = 0;
        return had;
    }

    public int path() {
        int items = text.readInto(draft);
        if (items < 0) {
            return items;
        }
        Path old = laid;
        laid = draft;
        draft = old;
        text.size = 0;
        present.wipe();
        past.loseAll();
        dropImages();
        dropFound();
        return items;
    }

    public int walker(int k, int what) {
        if (!isWalker(k)) {
            return BAD;
        }
        switch (what) {
            case 0: return laid.starts[k];
            case 1: return laid.strides[k];
            case 2: return laid.speeds[k];
            case 3: return present.walked[k];
            case 4: return present.deeperThan(k, 0);
            case 5: return Long.bitCount(present.gifts[k]);
            case 6: return present.taken[k];
            default: return BAD;
        }
    }

    public int depth(int k, int x) {
        return isPlace(k, x) ? present.depths[k][x] : BAD;
    }

    public int gift(int k, int x) {
        if (!isPlace(k, x)) {
            return BAD;
        }
        return present.hasGift(k, x) ? 1 : 0;
    }

    public int now(int what) {
        switch (what) {
            case 0: return present.feetOfBoth();
            case 1: return present.leastRainForPeace();
            case 2: return owes();
            case 3: return past.known;
            default: return BAD;
        }
    }

    private int owes() {
        int first = present.taken[0];
        int second = present.taken[1];
        if (first == second) {
            return NONE;
        }
        return first > second ? 1 : 10;
    }

    // ---- what is done

    public int walks(int k, int limping) {
        if (!isWalker(k) || limping < 0 || limping > 1) {
            return BAD;
        }
        if (present.walked[k] >= MOST_WALKS) {
            return STATE;
        }
        past.remember(present);
        long track = laid.tracks[k + WALKERS * limping];
        present.tread(k, track);
        return Long.bitCount(track);
    }

    public int gives(int k, int x) {
        if (!isPlace(k, x)) {
            return BAD;
        }
        int other = 1 - k;
        if (present.depths[other][x] == 0 || present.hasGift(other, x)) {
            return STATE;
        }
        past.remember(present);
        present.gifts[other] |= 1L << x;
        return Long.bitCount(present.gifts[other]);
    }

    public int rains(int n) {
        if (n < 1 || n > DEEPEST) {
            return BAD;
        }
        past.remember(present);
        present.rainOn(n);
        return present.ofBoth();
    }

    public int snows() {
        past.remember(present);
        int had = present.ofBoth();
        present.snowOver();
        return had;
    }

    public int cows(int x) {
        if (!laid.hasFoot(x)) {
            return BAD;
        }
        past.remember(present);
        int had = present.ofBoth();
        for (int foot = x; foot < x + COWS_WIDTH && foot <= laid.length; foot++) {
            for (int k = 0; k < WALKERS; k++) {
                present.removePrint(k, foot);
            }
        }
        return had - present.ofBoth();
    }

    public int fills(int k, int x) {
        if (!isPlace(k, x)) {
            return BAD;
        }
        int deep = present.depths[k][x];
        if (deep == 0) {
            return STATE;
        }
        past.remember(present);
        present.removePrint(k, x);
        return deep;
    }

    public int undo() {
        return past.recallInto(present) ? past.known : STATE;
    }

    // ---- tracks

    public int whose(int x) {
        return laid.hasFoot(x) ? laid.tracksWith(1L << x) : BAD;
    }

    public int both(int k) {
        if (k < -1) {
            return BAD;
        }
        long shared = laid.tracks[0] & laid.tracks[1];
        return k == -1 ? Long.bitCount(shared) : nthFoot(shared, k);
    }

    public int tells(int a, int b) {
        if (!isTrack(a) || !isTrack(b)) {
            return BAD;
        }
        return nthFoot(laid.tracks[a] ^ laid.tracks[b], 0);
    }

    public int left(int k, int n) {
        if (!isWalker(k) || n < 0 || n > DEEPEST) {
            return BAD;
        }
        return present.deeperThan(k, n);
    }

    public int jumps(int d, int what) {
        if (!isJump(d) || what < 0 || what > 1) {
            return BAD;
        }
        return what == 0 ? present.countJumps(d) : present.firstJump(d);
    }

    public int child(int d, int k) {
        if (!isJump(d) || k < -2) {
            return BAD;
        }
        way.countBack(present, d);
        if (k == -2) {
            return way.howManyRows();
        }
        if (way.fewest() == ChildsWay.UNREACHED) {
            return NONE;
        }
        return k == -1 ? way.fewest() : way.printOfFirstRow(present, d, k);
    }

    // ---- when to go

    public int go(int k, int o, int e, int what) {
        if (!isWalker(k) || o < 0 || o > LATEST_START || e < 0 || e > LATEST_END || what < 0 || what > 2) {
            return BAD;
        }
        int many = 0;
        int first = NONE;
        int last = NONE;
        for (int m = 0; m <= LATEST_START; m++) {
            if (shouldGo(k, m, o, e)) {
                first = many == 0 ? m : first;
                last = m;
                many++;
            }
        }
        if (what == 0) {
            return many;
        }
        return what == 1 ? first : last;
    }

    private boolean shouldGo(int k, int m, int o, int e) {
        return laid.minuteAt(k, m, laid.beech) < laid.minuteAt(1 - k, o, laid.beech)
            && laid.hasTurn(k, laid.minuteAt(k, m, laid.plank))
            && laid.minuteAt(k, m, laid.length) <= e;
    }

    public int odds(int k, int x, int n, int what) {
        if (!isWalker(k) || !isTenths(x) || n < 0 || n > MOST_AT_ODDS || what < 0 || what > 1) {
            return BAD;
        }
        int prints = Math.min(MOST_AT_ODDS, present.deeperThan(k, 0));
        int upper = 0;
        for (int stay = n; stay <= prints; stay++) {
            upper += chanceOf(stay, prints, TENTHS - x);
        }
        return inLeastTerms(upper, power(TENTHS, prints), what);
    }

    public int onePath(int x, int n, int what) {
        if (!isTenths(x) || n < 0 || n > MOST_DAYS || what < 0 || what > 1) {
            return BAD;
        }
        int wanted = present.leastRainForPeace();
        int upper = 0;
        for (int hard = 0; hard <= n; hard++) {
            if (hard * HARD_RAIN + (n - hard) * SOFT_RAIN >= wanted) {
                upper += chanceOf(hard, n, x);
            }
        }
        return inLeastTerms(upper, power(TENTHS, n), what);
    }

    /** How many of 10 to the power all, for just hits of all, each by tenths of 10. */
    private static int chanceOf(int hits, int all, int tenths) {
        return choose(all, hits) * power(tenths, hits) * power(TENTHS - tenths, all - hits);
    }

    private static int choose(int all, int some) {
        int ways = 1;
        for (int i = 1; i <= some; i++) {
            // a product of i numbers in a row is a multiple of 1 * 2 * .. * i: nothing is cut off
            ways = ways * (all - i + 1) / i;
        }
        return ways;
    }

    private static int power(int base, int exponent) {
        int product = 1;
        for (int i = 0; i < exponent; i++) {
            product *= base;
        }
        return product;
    }

    private static int inLeastTerms(int upper, int lower, int what) {
        int shared = Math.max(1, commonDivisor(upper, lower));
        return (what == 0 ? upper : lower) / shared;
    }

    private static int commonDivisor(int a, int b) {
        int big = a;
        int small = b;
        for (int i = 0; i < 64 && small != 0; i++) {
            int rest = big % small;
            big = small;
            small = rest;
        }
        return big;
    }

    // ---- what was found

    public int finds(int x) {
        if (!laid.hasFoot(x)) {
            return BAD;
        }
        if (foundCount >= MOST_FOUND) {
            return FULL;
        }
        found |= 1L << x;
        foundCount++;
        return foundCount;
    }

    public int forget() {
        int had = foundCount;
        dropFound();
        return had;
    }

    private void dropFound() {
        found = 0;
        foundCount = 0;
    }

    public int who() {
        return laid.tracksWith(found);
    }

    public int strangers(int what) {
        if (what < 0 || what > 1) {
            return BAD;
        }
        int many = 0;
        int first = NONE;
        for (int start = 0; start <= 9; start++) {
            for (int stride = 2; stride <= 9; stride++) {
                if ((found & ~laid.trackOf(start, stride, 0)) == 0) {
                    first = many == 0 ? 10 * start + stride : first;
                    many++;
                }
            }
        }
        return what == 0 ? many : first;
    }

    // ---- kinds, images

    public int rate(int kind, int x) {
        if (!laid.hasFoot(x)) {
            return NO;
        }
        switch (kind) {
            case 0: return asFoot(x);
            case 1: return asBoot(x);
            case 2: return asChild(x);
            case 3: return asLimp(x);
            case 4: return asGift(x);
            case 5: return asCow(x);
            default: return NO;
        }
    }

    private int asFoot(int x) {
        traced += 1;
        return present.depths[0][x];
    }

    private int asBoot(int x) {
        traced += 10;
        return asFoot(x) + present.depths[1][x];
    }

    private int asChild(int x) {
        traced += 100;
        return asFoot(x) - x;
    }

    private int asLimp(int x) {
        traced += 1000;
        return 2 * asBoot(x);
    }

    private int asGift(int x) {
        traced += 10000;
        return asChild(x) + Integer.bitCount(laid.tracksWith(1L << x));
    }

    private int asCow(int x) {
        traced += 100000;
        return asFoot(x) + present.walked[0] + present.walked[1];
    }

    public int keep(int image) {
        if (!isImage(image)) {
            return BAD;
        }
        images[image].becomes(present);
        kept[image] = true;
        return present.ofBoth();
    }

    private void dropImages() {
        for (int i = 0; i < IMAGES; i++) {
            kept[i] = false;
        }
    }

    public int back(int image) {
        if (!isImage(image)) {
            return BAD;
        }
        if (!kept[image]) {
            return STATE;
        }
        present.becomes(images[image]);
        past.loseAll();
        return present.ofBoth();
    }

    public int count(int what) {
        switch (what) {
            case 0: return laid.length;
            case 1: return laid.beech;
            case 2: return laid.plank;
            case 3: return laid.turn;
            case 4: return foundCount;
            case 5: return text.size;
            default: return BAD;
        }
    }

    public long trace() {
        return traced;
    }

    // ---- what a number may be

    private static boolean isWalker(int k) {
        return k >= 0 && k < WALKERS;
    }

    private static boolean isTrack(int a) {
        return a >= 0 && a < TRACKS;
    }

    private static boolean isImage(int image) {
        return image >= 0 && image < IMAGES;
    }

    private static boolean isJump(int d) {
        return d >= 0 && d <= FARTHEST_JUMP;
    }

    private static boolean isTenths(int x) {
        return x >= 0 && x <= TENTHS;
    }

    private boolean isPlace(int k, int x) {
        return isWalker(k) && laid.hasFoot(x);
    }

    /** The n-th foot of a set of feet, the lowest being the 0-th. */
    private static int nthFoot(long feet, int n) {
        int passed = 0;
        for (int x = 0; x < MOST_FEET; x++) {
            if (((feet >> x) & 1) != 0) {
                if (passed == n) {
                    return x;
                }
                passed++;
            }
        }
        return NONE;
    }

    /** What a text tells. Sets of feet are bits of a long, as there are 61 feet at most. */
    private static final class Path {
        int length;
        int beech;
        int plank;
        int turn;
        final int[] starts = new int[WALKERS];
        final int[] strides = new int[WALKERS];
        final int[] speeds = new int[WALKERS];
        final long[] tracks = new long[TRACKS];

        Path() {
            asAtFirst();
            layTracks();
        }

        void asAtFirst() {
            length = 30;
            beech = 0;
            plank = 0;
            turn = 2;
            Arrays.fill(starts, 0);
            Arrays.fill(strides, 3);
            Arrays.fill(speeds, 3);
        }

        void layTracks() {
            for (int k = 0; k < WALKERS; k++) {
                tracks[k] = trackOf(starts[k], strides[k], 0);
                tracks[k + WALKERS] = trackOf(starts[k], strides[k], 1);
            }
        }

        /** Each second step is shorter by so many feet. */
        long trackOf(int start, int stride, int shorter) {
            long feet = 0;
            int foot = start;
            for (int step = 1; step <= MOST_FEET && foot <= length; step++) {
                feet |= 1L << foot;
                foot += step % 2 == 0 ? stride - shorter : stride;
            }
            return feet;
        }

        boolean hasFoot(int x) {
            return x >= 0 && x <= length;
        }

        int tracksWith(long feet) {
            int bits = 0;
            for (int a = 0; a < TRACKS; a++) {
                if ((feet & ~tracks[a]) == 0) {
                    bits |= 1 << a;
                }
            }
            return bits;
        }

        int minuteAt(int k, int leaving, int foot) {
            int speed = Math.max(1, speeds[k]);
            return leaving + (foot + speed - 1) / speed;
        }

        boolean hasTurn(int k, int minute) {
            return minute / Math.max(1, turn) % WALKERS == k;
        }
    }

    /** THE TEXT, and how it is read. */
    private static final class Reader {
        private static final int NO_FAULT = -1;

        final int[] letters = new int[MOST_LETTERS];
        int size;
        private int at;
        private int fault;
        private boolean beechTold;
        private boolean plankTold;
        private boolean turnTold;

        boolean append(int letter) {
            if (size >= MOST_LETTERS) {
                return false;
            }
            letters[size] = letter;
            size++;
            return true;
        }

        /** How many items; or -10 less the fault, and then the path is of no use. */
        int readInto(Path path) {
            path.asAtFirst();
            at = 0;
            fault = NO_FAULT;
            beechTold = false;
            plankTold = false;
            turnTold = false;
            int items = 0;
            skipBlanks();
            for (int i = 0; i < MOST_LETTERS && at < size && fault == NO_FAULT; i++) {
                readItem(path, items == 0);
                items++;
                skipBlanks();
            }
            if (fault != NO_FAULT) {
                return -10 - fault;
            }
            path.layTracks();
            return items;
        }

        private void readItem(Path path, boolean isFirst) {
            switch (letters[at]) {
                case 'l':
                    passLetter(isFirst);
                    path.length = readNumber(5, 60);
                    break;
                case 'w':
                    passLetter(true);
                    readWalker(path);
                    break;
                case 'b':
                    passLetter(!beechTold);
                    beechTold = true;
                    path.beech = readNumber(0, path.length);
                    break;
                case 'p':
                    passLetter(!plankTold);
                    plankTold = true;
                    path.plank = readNumber(0, path.length);
                    break;
                case 't':
                    passLetter(!turnTold);
                    turnTold = true;
                    path.turn = readNumber(1, 9);
                    break;
                default:
                    passLetter(false);
            }
            readEnd();
        }

        private void readWalker(Path path) {
            int k = readNumber(0, WALKERS - 1);
            path.starts[k] = readNumber(0, 9);
            path.strides[k] = readNumber(2, 9);
            path.speeds[k] = readNumber(1, 9);
        }

        private void passLetter(boolean mayStand) {
            if (mayStand) {
                at++;
            } else {
                failAt(at);
            }
        }

        private void readEnd() {
            skipBlanks();
            if (at >= size) {
                failAt(size);
            } else if (letters[at] == ';') {
                at++;
            } else {
                failAt(at);
            }
        }

        /** A number within its bounds; behind a fault the lowest one, so that it is always one that may be. */
        private int readNumber(int lowest, int highest) {
            skipBlanks();
            int begin = at;
            int number = 0;
            for (int i = 0; i < MOST_LETTERS && isDigitAt(at); i++) {
                // beyond 100 it is too much already, and stays so
                number = Math.min(100, number * 10 + letters[at] - '0');
                at++;
            }
            int digits = at - begin;
            boolean aheadOfOthers = digits > 1 && letters[begin] == '0';
            if (digits == 0 || aheadOfOthers || number < lowest || number > highest) {
                failAt(begin);
            }
            return fault == NO_FAULT ? number : lowest;
        }

        private boolean isDigitAt(int place) {
            return place < size && letters[place] >= '0' && letters[place] <= '9';
        }

        private void skipBlanks() {
            for (int i = 0; i < MOST_LETTERS && at < size && letters[at] == ' '; i++) {
                at++;
            }
        }

        /** The first fault counts; what is read behind it is not asked for. */
        private void failAt(int place) {
            if (fault == NO_FAULT) {
                fault = place;
            }
        }
    }

    /** Prints, gifts, walks and what was taken: all that can be undone and kept. */
    private static final class Prints {
        final int[][] depths = new int[WALKERS][MOST_FEET];
        final long[] gifts = new long[WALKERS];
        final int[] walked = new int[WALKERS];
        final int[] taken = new int[WALKERS];

        void becomes(Prints other) {
            for (int k = 0; k < WALKERS; k++) {
                System.arraycopy(other.depths[k], 0, depths[k], 0, MOST_FEET);
                gifts[k] = other.gifts[k];
                walked[k] = other.walked[k];
                taken[k] = other.taken[k];
            }
        }

        void wipe() {
            snowOver();
            Arrays.fill(taken, 0);
        }

        void snowOver() {
            for (int k = 0; k < WALKERS; k++) {
                Arrays.fill(depths[k], 0);
                gifts[k] = 0;
                walked[k] = 0;
            }
        }

        void tread(int k, long track) {
            for (int x = 0; x < MOST_FEET; x++) {
                if (((track >> x) & 1) != 0) {
                    depths[k][x] = DEEPEST;
                }
            }
            taken[k] = Math.min(MOST_TAKEN, taken[k] + Long.bitCount(gifts[k] & track));
            gifts[k] &= ~track;
            walked[k]++;
        }

        void rainOn(int n) {
            for (int k = 0; k < WALKERS; k++) {
                for (int x = 0; x < MOST_FEET; x++) {
                    depths[k][x] = Math.max(0, depths[k][x] - n);
                }
            }
        }

        void removePrint(int k, int x) {
            depths[k][x] = 0;
            gifts[k] &= ~(1L << x);
        }

        boolean hasPrint(int k, int x) {
            return depths[k][x] > 0;
        }

        boolean hasGift(int k, int x) {
            return ((gifts[k] >> x) & 1) != 0;
        }

        int deeperThan(int k, int n) {
            int many = 0;
            for (int x = 0; x < MOST_FEET; x++) {
                if (depths[k][x] > n) {
                    many++;
                }
            }
            return many;
        }

        int ofBoth() {
            return deeperThan(0, 0) + deeperThan(1, 0);
        }

        int feetOfBoth() {
            int many = 0;
            for (int x = 0; x < MOST_FEET; x++) {
                if (hasPrint(0, x) && hasPrint(1, x)) {
                    many++;
                }
            }
            return many;
        }

        int leastRainForPeace() {
            int rain = 0;
            for (int x = 0; x < MOST_FEET; x++) {
                rain = Math.max(rain, Math.min(depths[0][x], depths[1][x]));
            }
            return rain;
        }

        int countJumps(int d) {
            int many = 0;
            for (int x = 0; x < MOST_FEET; x++) {
                if (hasPrint(0, x)) {
                    many += countNear(x, d);
                }
            }
            return many;
        }

        private int countNear(int x, int d) {
            int many = 0;
            int end = Math.min(MOST_FEET - 1, x + d);
            for (int y = Math.max(0, x - d); y <= end; y++) {
                if (hasPrint(1, y)) {
                    many++;
                }
            }
            return many;
        }

        int firstJump(int d) {
            for (int x = 0; x < MOST_FEET; x++) {
                int y = hasPrint(0, x) ? firstFrom(1, Math.max(0, x - d)) : NONE;
                if (y != NONE && y <= x + d) {
                    return 100 * x + y;
                }
            }
            return NONE;
        }

        private int firstFrom(int k, int from) {
            for (int x = from; x < MOST_FEET; x++) {
                if (hasPrint(k, x)) {
                    return x;
                }
            }
            return NONE;
        }

        int lowestFoot() {
            for (int x = 0; x < MOST_FEET; x++) {
                if (hasPrint(0, x) || hasPrint(1, x)) {
                    return x;
                }
            }
            return NONE;
        }

        int highestFoot() {
            for (int x = MOST_FEET - 1; x >= 0; x--) {
                if (hasPrint(0, x) || hasPrint(1, x)) {
                    return x;
                }
            }
            return NONE;
        }
    }

    /** The latest states, in a ring: the oldest one is lost where there is no more room. */
    private static final class Past {
        final Prints[] ring = new Prints[MOST_KNOWN];
        int known;
        private int next;

        Past() {
            for (int i = 0; i < MOST_KNOWN; i++) {
                ring[i] = new Prints();
            }
        }

        void remember(Prints prints) {
            ring[next].becomes(prints);
            next = (next + 1) % MOST_KNOWN;
            known = Math.min(MOST_KNOWN, known + 1);
        }

        boolean recallInto(Prints prints) {
            if (known == 0) {
                return false;
            }
            known--;
            next = (next + MOST_KNOWN - 1) % MOST_KNOWN;
            prints.becomes(ring[next]);
            return true;
        }

        void loseAll() {
            known = 0;
        }
    }

    /**
     * The child's rows of fewest jumps. They are counted back from the end, so that the first of them
     * can be read off from the beginning. A print's number is MOST_FEET times its walker, and its foot.
     */
    private static final class ChildsWay {
        static final int UNREACHED = -1;

        private final int[] jumpsLeft = new int[WALKERS * MOST_FEET];
        private final int[] rows = new int[WALKERS * MOST_FEET];
        private final int[] queue = new int[WALKERS * MOST_FEET];
        private int queued;
        private int beginning;

        void countBack(Prints prints, int d) {
            Arrays.fill(jumpsLeft, UNREACHED);
            Arrays.fill(rows, 0);
            queued = 0;
            beginning = prints.lowestFoot();
            int end = prints.highestFoot();
            for (int k = 0; k < WALKERS && end != NONE; k++) {
                if (prints.hasPrint(k, end)) {
                    reach(k * MOST_FEET + end, 0, 1);
                }
            }
            for (int i = 0; i < queue.length && i < queued; i++) {
                reachThoseBefore(prints, queue[i], d);
            }
        }

        private void reachThoseBefore(Prints prints, int print, int d) {
            int other = 1 - print / MOST_FEET;
            int foot = print % MOST_FEET;
            for (int x = Math.max(0, foot - d); x <= foot; x++) {
                if (prints.hasPrint(other, x)) {
                    reach(other * MOST_FEET + x, jumpsLeft[print] + 1, rows[print]);
                }
            }
        }

        /** Prints come in the order of their jumps, so those of a print are all told before it is left. */
        private void reach(int print, int jumpsFromIt, int rowsFromIt) {
            if (jumpsLeft[print] == UNREACHED && queued < queue.length) {
                jumpsLeft[print] = jumpsFromIt;
                queue[queued] = print;
                queued++;
            }
            if (jumpsLeft[print] == jumpsFromIt) {
                rows[print] = (rows[print] + rowsFromIt) % WAYS_MODULUS;
            }
        }

        int fewest() {
            int first = firstPrint();
            return first == UNREACHED ? UNREACHED : jumpsLeft[first];
        }

        /** Of those it can begin with, the first that has the fewest jumps left. */
        private int firstPrint() {
            int best = UNREACHED;
            for (int k = 0; k < WALKERS && beginning != NONE; k++) {
                int print = k * MOST_FEET + beginning;
                boolean isReached = jumpsLeft[print] != UNREACHED;
                if (isReached && (best == UNREACHED || jumpsLeft[print] < jumpsLeft[best])) {
                    best = print;
                }
            }
            return best;
        }

        int howManyRows() {
            int least = fewest();
            int ways = 0;
            for (int k = 0; k < WALKERS && least != UNREACHED; k++) {
                int print = k * MOST_FEET + beginning;
                if (jumpsLeft[print] == least) {
                    ways += rows[print];
                }
            }
            return ways % WAYS_MODULUS;
        }

        int printOfFirstRow(Prints prints, int d, int n) {
            int print = firstPrint();
            if (print == UNREACHED || n > jumpsLeft[print]) {
                return NOT_SO_MANY;
            }
            for (int i = 0; i < n; i++) {
                print = nextOfFirstRow(prints, d, print);
            }
            return 100 * (print / MOST_FEET) + print % MOST_FEET;
        }

        /** The next one is the other walker's: the lowest foot is the first. */
        private int nextOfFirstRow(Prints prints, int d, int print) {
            int other = 1 - print / MOST_FEET;
            int foot = print % MOST_FEET;
            int end = Math.min(MOST_FEET - 1, foot + d);
            for (int x = foot; x <= end; x++) {
                int next = other * MOST_FEET + x;
                if (prints.hasPrint(other, x) && jumpsLeft[next] == jumpsLeft[print] - 1) {
                    return next;
                }
            }
            return print;
        }
    }
}
