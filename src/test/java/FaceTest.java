import java.io.IOException;
import java.lang.reflect.Constructor;
import java.lang.reflect.Field;
import java.lang.reflect.Method;
import java.lang.reflect.Modifier;
import java.nio.file.Files;
import java.nio.file.Path;
import java.util.Set;
import java.util.TreeSet;
import java.util.regex.Matcher;
import java.util.regex.Pattern;

/** The public face of the document, and those rules of LANGUAGE.md that can be seen in the text or by reflection. */
public final class FaceTest {
    private static final Check CHECK = new Check();
    private static final String[] FACE = {
        "int type(int)", "int clear()", "int path()", "int walker(int,int)", "int depth(int,int)", "int gift(int,int)",
        "int now(int)", "int walks(int,int)", "int gives(int,int)", "int rains(int)", "int snows()", "int cows(int)",
        "int fills(int,int)", "int undo()", "int whose(int)", "int both(int)", "int tells(int,int)",
        "int left(int,int)", "int jumps(int,int)", "int child(int,int)", "int go(int,int,int,int)",
        "int odds(int,int,int,int)", "int onePath(int,int,int)", "int finds(int)", "int forget()", "int who()",
        "int strangers(int)", "int rate(int,int)", "int keep(int)", "int back(int)", "int count(int)", "long trace()"};

    public static void main(String[] args) throws IOException {
        methods();
        members();
        constants();
        words();
        CHECK.end();
    }

    private static String signature(Method method) {
        StringBuilder text = new StringBuilder();
        text.append(method.getReturnType().getName()).append(' ').append(method.getName()).append('(');
        String between = "";
        for (Class<?> parameter : method.getParameterTypes()) {
            text.append(between).append(parameter.getName());
            between = ",";
        }
        return text.append(')').toString();
    }

    private static void methods() {
        Set<String> got = new TreeSet<>();
        Set<String> publicNames = new TreeSet<>();
        Set<String> privateNames = new TreeSet<>();
        for (Method method : TwoPrints.class.getDeclaredMethods()) {
            boolean isPublic = Modifier.isPublic(method.getModifiers());
            CHECK.holds(method + " is public or private", isPublic || Modifier.isPrivate(method.getModifiers()));
            CHECK.holds(method + " has at most seven parameters", method.getParameterCount() <= 7);
            (isPublic ? publicNames : privateNames).add(method.getName());
            if (isPublic) {
                got.add(signature(method));
            }
        }
        Set<String> due = new TreeSet<>(Set.of(FACE));
        CHECK.holds("the face is " + got + ", due is " + due, got.equals(due));
        for (Class<?> inside : TwoPrints.class.getDeclaredClasses()) {
            for (Method method : inside.getDeclaredMethods()) {
                privateNames.add(method.getName());
            }
        }
        privateNames.retainAll(publicNames);
        CHECK.holds("names both public and not: " + privateNames, privateNames.isEmpty());
    }

    private static void members() {
        CHECK.holds("public and final", Modifier.isPublic(TwoPrints.class.getModifiers())
            && Modifier.isFinal(TwoPrints.class.getModifiers()));
        Constructor<?>[] constructors = TwoPrints.class.getDeclaredConstructors();
        CHECK.due("constructors", constructors.length, 1);
        CHECK.holds("a public one", Modifier.isPublic(constructors[0].getModifiers()));
        CHECK.due("without parameters", constructors[0].getParameterCount(), 0);
        CHECK.holds("some twelve classes at most", TwoPrints.class.getDeclaredClasses().length < 12);
        for (Class<?> inside : TwoPrints.class.getDeclaredClasses()) {
            CHECK.holds(inside + " is static", Modifier.isStatic(inside.getModifiers()));
            fields(inside);
        }
        fields(TwoPrints.class);
    }

    private static void fields(Class<?> owner) {
        int own = 0;
        for (Field field : owner.getDeclaredFields()) {
            int modifiers = field.getModifiers();
            boolean isStatic = Modifier.isStatic(modifiers);
            own += isStatic ? 0 : 1;
            CHECK.holds(field + " is final, if static", !isStatic || Modifier.isFinal(modifiers));
            boolean isFace = Set.of("BAD", "STATE", "FULL", "NONE", "NO").contains(field.getName());
            CHECK.holds(field + " is public just if it is the face's",
                owner != TwoPrints.class || (isFace ? Modifier.isPublic(modifiers) : Modifier.isPrivate(modifiers)));
        }
        CHECK.holds(owner + " has at most twenty fields", own <= 20);
    }

    private static void constants() {
        CHECK.due("BAD", TwoPrints.BAD, -1);
        CHECK.due("STATE", TwoPrints.STATE, -2);
        CHECK.due("FULL", TwoPrints.FULL, -3);
        CHECK.due("NONE", TwoPrints.NONE, -9);
        CHECK.due("NO", TwoPrints.NO, -1000000);
    }

    /** .ci/run starts the tests in the project's folder. */
    private static void words() throws IOException {
        String source = Files.readString(Path.of("src/main/java/TwoPrints.java"));
        String code = source.replaceAll("(?s)/\\*.*?\\*/", "").replaceAll("//[^\n]*", "");
        String[] forbidden = {"\\bthrow\\b", "\\bthrows\\b", "\\btry\\b", "\\bcatch\\b", "\\bfinally\\b", "\\bsynchronized\\b",
            "\\bassert\\b", "->", "::", "Exact\\b", "\\bpackage\\b", "\\bprotected\\b", "\\bvar\\b", "@\\w", "\"",
            "import (?!java\\.util\\.(Arrays|ArrayList|List|Iterator);)", "\\bSystem\\.(?!arraycopy)", "static\\s*\\{",
            "\\bArrays\\.(?!fill|copyOf)", "\\bdouble\\b", "\\bfloat\\b", "\\bwhile \\(true\\)", "for \\(;;"};
        for (String word : forbidden) {
            Matcher matcher = Pattern.compile(word).matcher(code);
            CHECK.holds("'" + word + "' stands in the class", !matcher.find());
        }
        for (int i = 0; i < source.length(); i++) {
            if (source.charAt(i) > 126) {
                CHECK.due("a sign beyond ASCII at " + i, source.charAt(i), 0);
            }
        }
    }
}
