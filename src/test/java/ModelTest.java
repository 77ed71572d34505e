import java.lang.reflect.InvocationTargetException;
import java.lang.reflect.Method;
import java.util.ArrayList;
import java.util.Arrays;
import java.util.Comparator;
import java.util.List;
import java.util.Random;

/** Random runs of 512 calls (of fixed seeds) on TwoPrints and on NaivePrints: all answers must be the same. */
public final class ModelTest {
    private static final int RUNS = 400;
    private static final int CALLS = 512;
    private static final Check CHECK = new Check();
    private static final int[] ODD_NUMBERS = {Integer.MIN_VALUE, Integer.MAX_VALUE, -1000000, -3, -2, -1, 60, 61, 64, 99,
        100, 199, 200, 255, 256};

    private final Random random;
    private final TwoPrints real = new TwoPrints();
    private final NaivePrints naive = new NaivePrints();
    private final List<String> told = new ArrayList<>();

    private ModelTest(long seed) {
        random = new Random(seed);
    }

    public static void main(String[] args) throws ReflectiveOperationException {
        Method[] face = Arrays.stream(TwoPrints.class.getDeclaredMethods())
            .filter(method -> java.lang.reflect.Modifier.isPublic(method.getModifiers()))
            .sorted(Comparator.comparing(Method::getName)).toArray(Method[]::new);
        manyWays();
        for (long seed = 0; seed < RUNS; seed++) {
            new ModelTest(seed).run(face);
        }
        CHECK.end();
    }

    /** Where the ways are more than the modulus. */
    private static void manyWays() {
        TwoPrints real = Check.told("l60;w0 0 2 1;w1 1 2 1;");
        NaivePrints naive = new NaivePrints();
        for (char letter : "l60;w0 0 2 1;w1 1 2 1;".toCharArray()) {
            naive.type(letter);
        }
        naive.path();
        for (int k = 0; k < 2; k++) {
            for (int limping = 0; limping < 2; limping++) {
                real.walks(k, limping);
                naive.walks(k, limping);
            }
        }
        for (int d = 0; d <= 60; d++) {
            for (int k = -3; k <= 62; k++) {
                CHECK.due("child(" + d + ", " + k + ")", real.child(d, k), naive.child(d, k));
            }
        }
    }

    private void run(Method[] face) throws ReflectiveOperationException {
        while (told.size() < CALLS) {
            int dice = random.nextInt(100);
            if (dice < 1) {
                // letters typed by chance would make a fault of most texts
                if (random.nextInt(4) > 0) {
                    same("clear");
                }
                for (char letter : text().toCharArray()) {
                    same("type", (int) letter);
                }
                same("path");
                lookAround();
            } else if (dice < 30) {
                deed();
            } else {
                Method method = face[random.nextInt(face.length)];
                // a path told too often would leave no time for anything else
                if (method.getName().equals("path") && random.nextInt(8) > 0) {
                    continue;
                }
                Object[] arguments = new Object[method.getParameterCount()];
                for (int i = 0; i < arguments.length; i++) {
                    arguments[i] = number();
                }
                same(method, arguments);
            }
        }
    }

    /** By numbers that mostly may be: by any numbers gifts would hardly ever be laid, and never taken. */
    private void deed() throws ReflectiveOperationException {
        int k = random.nextInt(2);
        int foot = random.nextInt(naive.count(0) + 1);
        switch (random.nextInt(12)) {
            case 0: case 1: same("walks", k, random.nextInt(2)); break;
            case 2: same("rains", 1 + random.nextInt(4)); break;
            case 3: same("cows", foot); break;
            case 4: same("fills", k, foot); break;
            case 5: same("undo"); break;
            case 6: same(random.nextBoolean() ? "keep" : "back", random.nextInt(2)); break;
            default: same("gives", k, foot);
        }
        if (random.nextInt(6) == 0) {
            lookAround();
        }
    }

    private void lookAround() throws ReflectiveOperationException {
        for (int k = 0; k < 2; k++) {
            for (int what = 3; what <= 6; what++) {
                same("walker", k, what);
            }
        }
        same("now", 2);
        same("now", 3);
    }

    private int number() {
        switch (random.nextInt(16)) {
            case 0: return ODD_NUMBERS[random.nextInt(ODD_NUMBERS.length)];
            case 1: return random.nextInt(256);
            case 2: case 3: return random.nextInt(62);
            case 4: case 5: return random.nextInt(31);
            case 6: case 7: case 8: return random.nextInt(11);
            case 9: return -random.nextInt(3);
            // the last feet, and the first beyond them
            case 10: return naive.count(0) + random.nextInt(5) - 2;
            default: return random.nextInt(3);
        }
    }

    private String text() {
        StringBuilder text = new StringBuilder();
        int length = 5 + random.nextInt(56);
        if (random.nextInt(4) > 0) {
            text.append('l').append(length).append(';');
        }
        int items = random.nextInt(6);
        for (int i = 0; i < items; i++) {
            switch (random.nextInt(5)) {
                case 0: text.append('b').append(random.nextInt(length + 1)); break;
                case 1: text.append("p ").append(random.nextInt(length + 1)); break;
                case 2: text.append(" t").append(1 + random.nextInt(9)); break;
                default: text.append('w').append(random.nextInt(2)).append(' ').append(random.nextInt(10)).append(' ')
                    .append(2 + random.nextInt(8)).append("  ").append(1 + random.nextInt(9));
            }
            text.append(";");
        }
        if (random.nextInt(3) == 0 && text.length() > 0) {
            int place = random.nextInt(text.length());
            String letters = "lwbpt;0123456789 x-";
            char letter = letters.charAt(random.nextInt(letters.length()));
            switch (random.nextInt(3)) {
                case 0: text.insert(place, letter); break;
                case 1: text.setCharAt(place, letter); break;
                default: text.deleteCharAt(place);
            }
        }
        return text.toString();
    }

    private void same(String name, Object... arguments) throws ReflectiveOperationException {
        Class<?>[] types = new Class<?>[arguments.length];
        Arrays.fill(types, int.class);
        same(TwoPrints.class.getMethod(name, types), arguments);
    }

    private void same(Method method, Object... arguments) throws ReflectiveOperationException {
        if (told.size() >= CALLS) {
            return;
        }
        String call = method.getName() + Arrays.toString(arguments);
        told.add(call);
        Method other = NaivePrints.class.getDeclaredMethod(method.getName(), method.getParameterTypes());
        long want = ((Number) other.invoke(naive, arguments)).longValue();
        long got;
        try {
            got = ((Number) method.invoke(real, arguments)).longValue();
        } catch (InvocationTargetException thrown) {
            System.out.println(call + " threw " + thrown.getCause() + " behind " + told);
            got = Long.MIN_VALUE;
        }
        CHECK.due(call, got, want);
    }
}
