import java.math.BigInteger;
import java.util.ArrayDeque;
import java.util.ArrayList;
import java.util.Deque;
import java.util.HashMap;
import java.util.List;
import java.util.Map;
import java.util.SortedSet;
import java.util.TreeMap;
import java.util.TreeSet;

/** The document once more, by other means: sets, maps, tokens, each case of chance played through. */
final class NaivePrints {
    private static final int BAD = -1, STATE = -2, FULL = -3, NONE = -9, NO = -1000000;

    /** What can be undone and kept. */
    private static final class Now {
        final List<TreeMap<Integer, Integer>> prints = List.of(new TreeMap<>(), new TreeMap<>());
        final List<TreeSet<Integer>> gifts = List.of(new TreeSet<>(), new TreeSet<>());
        final int[] walks = new int[2];
        final int[] took = new int[2];

        Now copy() {
            Now copy = new Now();
            for (int k = 0; k < 2; k++) {
                copy.prints.get(k).putAll(prints.get(k));
                copy.gifts.get(k).addAll(gifts.get(k));
                copy.walks[k] = walks[k];
                copy.took[k] = took[k];
            }
            return copy;
        }

        int all() {
            return prints.get(0).size() + prints.get(1).size();
        }

        void rain(int n) {
            for (TreeMap<Integer, Integer> of : prints) {
                of.replaceAll((x, depth) -> depth - n);
                of.values().removeIf(depth -> depth <= 0);
            }
        }

        SortedSet<Integer> shared() {
            SortedSet<Integer> feet = new TreeSet<>(prints.get(0).keySet());
            feet.retainAll(prints.get(1).keySet());
            return feet;
        }

        void spoil(int k, int x) {
            prints.get(k).remove(x);
            gifts.get(k).remove(x);
        }
    }

    /** What a text tells. */
    private static final class Told {
        final int[][] walkers = {{0, 3, 3}, {0, 3, 3}};
        final Map<String, Integer> others = new HashMap<>(Map.of("l", 30, "b", 0, "p", 0, "t", 2));

        int length() {
            return others.get("l");
        }

        TreeSet<Integer> track(int a) {
            return feet(walkers[a % 2][0], walkers[a % 2][1], a >= 2);
        }

        TreeSet<Integer> feet(int start, int stride, boolean limping) {
            TreeSet<Integer> feet = new TreeSet<>();
            boolean second = false;
            for (int x = start; x <= length(); second = !second) {
                feet.add(x);
                x += limping && second ? stride - 1 : stride;
            }
            return feet;
        }
    }

    private static final class Token {
        final String word;
        final int place;

        Token(String word, int place) {
            this.word = word;
            this.place = place;
        }
    }

    private String text = "";
    private Told told = new Told();
    private Now now = new Now();
    private final Deque<Now> past = new ArrayDeque<>();
    private final Now[] images = new Now[2];
    private final List<Integer> found = new ArrayList<>();
    private long trace;

    private boolean foot(int x) {
        return x >= 0 && x <= told.length();
    }

    private static boolean walk(int k) {
        return k == 0 || k == 1;
    }

    int type(int letter) {
        if (letter < 0 || letter > 255) {
            return BAD;
        }
        if (text.length() == 120) {
            return FULL;
        }
        text += (char) letter;
        return text.length();
    }

    int clear() {
        int had = text.length();
        text = "";
        return had;
    }

    private List<Token> tokens() {
        List<Token> tokens = new ArrayList<>();
        int i = 0;
        while (i < text.length()) {
            int begin = i++;
            if (text.charAt(begin) == ' ') {
                continue;
            }
            while ("0123456789".indexOf(text.charAt(begin)) >= 0 && i < text.length()
                && "0123456789".indexOf(text.charAt(i)) >= 0) {
                i++;
            }
            tokens.add(new Token(text.substring(begin, i), begin));
        }
        return tokens;
    }

    int path() {
        Told anew = new Told();
        List<Token> tokens = tokens();
        List<String> seen = new ArrayList<>();
        int i = 0;
        while (i < tokens.size()) {
            Token head = tokens.get(i);
            String word = head.word;
            boolean may = "lwbpt".contains(word) && !(word.equals("l") && !seen.isEmpty())
                && !(!word.equals("w") && seen.contains(word));
            if (!may) {
                return -10 - head.place;
            }
            String[] bounds = boundsOf(word, anew.length());
            int[] numbers = new int[bounds.length];
            for (int n = 0; n < bounds.length; n++) {
                i++;
                if (i >= tokens.size()) {
                    return -10 - text.length();
                }
                numbers[n] = number(tokens.get(i).word, bounds[n]);
                if (numbers[n] < 0) {
                    return -10 - tokens.get(i).place;
                }
            }
            i++;
            if (i >= tokens.size()) {
                return -10 - text.length();
            }
            if (!tokens.get(i).word.equals(";")) {
                return -10 - tokens.get(i).place;
            }
            i++;
            seen.add(word);
            if (word.equals("w")) {
                anew.walkers[numbers[0]] = new int[] {numbers[1], numbers[2], numbers[3]};
            } else {
                anew.others.put(word, numbers[0]);
            }
        }
        told = anew;
        text = "";
        now = new Now();
        past.clear();
        images[0] = null;
        images[1] = null;
        found.clear();
        return seen.size();
    }

    private static String[] boundsOf(String word, int length) {
        switch (word) {
            case "l": return new String[] {"5 60"};
            case "w": return new String[] {"0 1", "0 9", "2 9", "1 9"};
            case "t": return new String[] {"1 9"};
            default: return new String[] {"0 " + length};
        }
    }

    private static int number(String word, String bounds) {
        if (!word.matches("0|[1-9][0-9]?")) {
            return -1;
        }
        String[] both = bounds.split(" ");
        int value = Integer.parseInt(word);
        return value < Integer.parseInt(both[0]) || value > Integer.parseInt(both[1]) ? -1 : value;
    }

    int walker(int k, int what) {
        if (!walk(k) || what < 0 || what > 6) {
            return BAD;
        }
        if (what < 3) {
            return told.walkers[k][what];
        }
        int[] rest = {now.walks[k], now.prints.get(k).size(), now.gifts.get(k).size(), now.took[k]};
        return rest[what - 3];
    }

    int depth(int k, int x) {
        return walk(k) && foot(x) ? now.prints.get(k).getOrDefault(x, 0) : BAD;
    }

    int gift(int k, int x) {
        return walk(k) && foot(x) ? (now.gifts.get(k).contains(x) ? 1 : 0) : BAD;
    }

    int now(int what) {
        if (what < 0 || what > 3) {
            return BAD;
        }
        int owes = now.took[0] == now.took[1] ? NONE : now.took[0] > now.took[1] ? 1 : 10;
        int[] all = {now.shared().size(), peace(), owes, past.size()};
        return all[what];
    }

    private int peace() {
        for (int n = 0; ; n++) {
            Now then = now.copy();
            then.rain(n);
            if (then.shared().isEmpty()) {
                return n;
            }
        }
    }

    private void remember() {
        past.addLast(now.copy());
        if (past.size() > 8) {
            past.removeFirst();
        }
    }

    int walks(int k, int limping) {
        if (!walk(k) || limping < 0 || limping > 1) {
            return BAD;
        }
        if (now.walks[k] == 999) {
            return STATE;
        }
        remember();
        TreeSet<Integer> track = told.track(k + 2 * limping);
        for (int x : track) {
            now.prints.get(k).put(x, 9);
            if (now.gifts.get(k).remove(x) && now.took[k] < 9999) {
                now.took[k]++;
            }
        }
        now.walks[k]++;
        return track.size();
    }

    int gives(int k, int x) {
        if (!walk(k) || !foot(x)) {
            return BAD;
        }
        if (!now.prints.get(1 - k).containsKey(x) || now.gifts.get(1 - k).contains(x)) {
            return STATE;
        }
        remember();
        now.gifts.get(1 - k).add(x);
        return now.gifts.get(1 - k).size();
    }

    int rains(int n) {
        if (n < 1 || n > 9) {
            return BAD;
        }
        remember();
        now.rain(n);
        return now.all();
    }

    int snows() {
        remember();
        int had = now.all();
        Now white = new Now();
        white.took[0] = now.took[0];
        white.took[1] = now.took[1];
        now = white;
        return had;
    }

    int cows(int x) {
        if (!foot(x)) {
            return BAD;
        }
        remember();
        int had = now.all();
        for (int k = 0; k < 2; k++) {
            now.spoil(k, x);
            now.spoil(k, x + 1);
            now.spoil(k, x + 2);
        }
        return had - now.all();
    }

    int fills(int k, int x) {
        if (!walk(k) || !foot(x)) {
            return BAD;
        }
        if (!now.prints.get(k).containsKey(x)) {
            return STATE;
        }
        remember();
        int deep = now.prints.get(k).get(x);
        now.spoil(k, x);
        return deep;
    }

    int undo() {
        if (past.isEmpty()) {
            return STATE;
        }
        now = past.removeLast();
        return past.size();
    }

    int whose(int x) {
        return foot(x) ? having(List.of(x)) : BAD;
    }

    private int having(List<Integer> feet) {
        int bits = 0;
        for (int a = 0; a < 4; a++) {
            bits += told.track(a).containsAll(feet) ? 1 << a : 0;
        }
        return bits;
    }

    int both(int k) {
        if (k < -1) {
            return BAD;
        }
        List<Integer> feet = new ArrayList<>(told.track(0));
        feet.retainAll(told.track(1));
        return k == -1 ? feet.size() : k < feet.size() ? feet.get(k) : NONE;
    }

    int tells(int a, int b) {
        if (a < 0 || a > 3 || b < 0 || b > 3) {
            return BAD;
        }
        for (int x = 0; x <= told.length(); x++) {
            if (told.track(a).contains(x) != told.track(b).contains(x)) {
                return x;
            }
        }
        return NONE;
    }

    int left(int k, int n) {
        if (!walk(k) || n < 0 || n > 9) {
            return BAD;
        }
        Now then = now.copy();
        then.rain(n);
        return then.prints.get(k).size();
    }

    int jumps(int d, int what) {
        if (d < 0 || d > 60 || what < 0 || what > 1) {
            return BAD;
        }
        TreeSet<Integer> twos = new TreeSet<>();
        for (int x : now.prints.get(0).keySet()) {
            for (int y : now.prints.get(1).keySet()) {
                if (Math.abs(x - y) <= d) {
                    twos.add(100 * x + y);
                }
            }
        }
        return what == 0 ? twos.size() : twos.isEmpty() ? NONE : twos.first();
    }

    /** By rows that grow jump by jump from all beginnings: for each last print how many there are, and the first. */
    int child(int d, int k) {
        if (d < 0 || d > 60 || k < -2) {
            return BAD;
        }
        TreeSet<Integer> feet = new TreeSet<>(now.prints.get(0).keySet());
        feet.addAll(now.prints.get(1).keySet());
        TreeMap<Integer, BigInteger> ways = new TreeMap<>();
        TreeMap<Integer, List<Integer>> firsts = new TreeMap<>();
        for (int w = 0; w < 2 && !feet.isEmpty(); w++) {
            if (now.prints.get(w).containsKey(feet.first())) {
                ways.put(100 * w + feet.first(), BigInteger.ONE);
                firsts.put(100 * w + feet.first(), List.of(100 * w + feet.first()));
            }
        }
        for (int jumps = 0; jumps <= 200 && !feet.isEmpty(); jumps++) {
            int end = feet.last();
            BigInteger all = ways.getOrDefault(end, BigInteger.ZERO).add(ways.getOrDefault(100 + end, BigInteger.ZERO));
            if (all.signum() > 0) {
                List<Integer> first = least(firsts.get(end), firsts.get(100 + end));
                int modulo = all.mod(BigInteger.valueOf(1000003)).intValue();
                return k == -2 ? modulo : k == -1 ? jumps : k < first.size() ? first.get(k) : -5;
            }
            TreeMap<Integer, BigInteger> nextWays = new TreeMap<>();
            TreeMap<Integer, List<Integer>> nextFirsts = new TreeMap<>();
            for (int print : ways.keySet()) {
                int other = 1 - print / 100;
                int from = print % 100;
                for (int y : now.prints.get(other).subMap(from, true, from + d, true).keySet()) {
                    List<Integer> row = new ArrayList<>(firsts.get(print));
                    row.add(100 * other + y);
                    nextWays.merge(100 * other + y, ways.get(print), BigInteger::add);
                    nextFirsts.merge(100 * other + y, row, NaivePrints::least);
                }
            }
            ways = nextWays;
            firsts = nextFirsts;
        }
        return k == -2 ? 0 : NONE;
    }

    private static List<Integer> least(List<Integer> a, List<Integer> b) {
        if (a == null || b == null) {
            return a == null ? b : a;
        }
        for (int i = 0; i < a.size(); i++) {
            if (!a.get(i).equals(b.get(i))) {
                return a.get(i) < b.get(i) ? a : b;
            }
        }
        return a;
    }

    private int minute(int k, int m, int x) {
        int minutes = 0;
        for (int at = 0; at < x; at += told.walkers[k][2]) {
            minutes++;
        }
        return m + minutes;
    }

    int go(int k, int o, int e, int what) {
        if (!walk(k) || o < 0 || o > 99 || e < 0 || e > 199 || what < 0 || what > 2) {
            return BAD;
        }
        TreeSet<Integer> good = new TreeSet<>();
        for (int m = 0; m < 100; m++) {
            int beech = told.others.get("b");
            int turn = minute(k, m, told.others.get("p")) / told.others.get("t") % 2;
            if (minute(k, m, beech) < minute(1 - k, o, beech) && turn == k && minute(k, m, told.length()) <= e) {
                good.add(m);
            }
        }
        if (what == 0) {
            return good.size();
        }
        return good.isEmpty() ? NONE : what == 1 ? good.first() : good.last();
    }

    private static int fraction(long upper, long lower, int what) {
        long shared = BigInteger.valueOf(upper).gcd(BigInteger.valueOf(lower)).longValue();
        return (int) ((what == 0 ? upper : lower) / shared);
    }

    int odds(int k, int x, int n, int what) {
        if (!walk(k) || x < 0 || x > 10 || n < 0 || n > 6 || what < 0 || what > 1) {
            return BAD;
        }
        int prints = Math.min(6, now.prints.get(k).size());
        long upper = 0;
        long lower = 1;
        for (int i = 0; i < prints; i++) {
            lower *= 10;
        }
        for (int spared = 0; spared < 1 << prints; spared++) {
            long chance = 1;
            for (int i = 0; i < prints; i++) {
                chance *= (spared >> i & 1) == 1 ? 10 - x : x;
            }
            upper += Integer.bitCount(spared) >= n ? chance : 0;
        }
        return fraction(upper, lower, what);
    }

    int onePath(int x, int n, int what) {
        if (x < 0 || x > 10 || n < 0 || n > 5 || what < 0 || what > 1) {
            return BAD;
        }
        long lower = 1;
        for (int day = 0; day < n; day++) {
            lower *= 10;
        }
        return fraction(peaceful(now, x, n), lower, what);
    }

    private static long peaceful(Now then, int x, int days) {
        if (days == 0) {
            return then.shared().isEmpty() ? 1 : 0;
        }
        Now hard = then.copy();
        hard.rain(3);
        Now soft = then.copy();
        soft.rain(1);
        return x * peaceful(hard, x, days - 1) + (10 - x) * peaceful(soft, x, days - 1);
    }

    int finds(int x) {
        if (!foot(x)) {
            return BAD;
        }
        if (found.size() == 6) {
            return FULL;
        }
        found.add(x);
        return found.size();
    }

    int forget() {
        int had = found.size();
        found.clear();
        return had;
    }

    int who() {
        return having(found);
    }

    int strangers(int what) {
        if (what < 0 || what > 1) {
            return BAD;
        }
        TreeSet<Integer> all = new TreeSet<>();
        for (int start = 0; start < 10; start++) {
            for (int stride = 2; stride < 10; stride++) {
                if (told.feet(start, stride, false).containsAll(found)) {
                    all.add(10 * start + stride);
                }
            }
        }
        return what == 0 ? all.size() : all.isEmpty() ? NONE : all.first();
    }

    int rate(int kind, int x) {
        if (kind < 0 || kind > 5 || !foot(x)) {
            return NO;
        }
        int[] above = {-1, 0, 0, 1, 2, 0};
        long[] marks = {1, 10, 100, 1000, 10000, 100000};
        trace += marks[kind];
        int up = kind == 0 ? 0 : rate(above[kind], x);
        switch (kind) {
            case 0: return depth(0, x);
            case 1: return up + depth(1, x);
            case 2: return up - x;
            case 3: return up + up;
            case 4: return up + Integer.bitCount(whose(x));
            default: return up + now.walks[0] + now.walks[1];
        }
    }

    int keep(int image) {
        if (image < 0 || image > 1) {
            return BAD;
        }
        images[image] = now.copy();
        return now.all();
    }

    int back(int image) {
        if (image < 0 || image > 1) {
            return BAD;
        }
        if (images[image] == null) {
            return STATE;
        }
        now = images[image].copy();
        past.clear();
        return now.all();
    }

    int count(int what) {
        if (what < 0 || what > 5) {
            return BAD;
        }
        int[] all = {told.length(), told.others.get("b"), told.others.get("p"), told.others.get("t"), found.size(),
            text.length()};
        return all[what];
    }

    long trace() {
        return trace;
    }
}
