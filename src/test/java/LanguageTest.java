import java.io.IOException;
import java.lang.reflect.Constructor;
import java.lang.reflect.Field;
import java.lang.reflect.Method;
import java.lang.reflect.Modifier;
import java.nio.charset.StandardCharsets;
import java.nio.file.Files;
import java.nio.file.Path;
import java.util.ArrayList;
import java.util.List;
import java.util.Set;
import java.util.TreeSet;
import java.util.regex.Matcher;
import java.util.regex.Pattern;

/** The face of the class, and those rules of LANGUAGE.md that can be seen in the text or by reflection. */
public final class LanguageTest {
    private static final String[] FACE = {
        "int letter(int)", "int blank()", "int fault()", "int sheet()", "int ink(int)",
        "int dot(int,int,int)", "int lift(int)", "int arc(int,int,int,int)", "int strew(int,int)",
        "int told(int,int)", "int about(int)", "int bound(int,int)", "int circle(int,int,int,int)",
        "int votes(int,int,int)", "int spot(int,int)", "int spots(int)", "int hunt()", "int split()",
        "int ring(int,int)", "int as(int,int)", "int cross(int,int)", "int count(int)", "long digest()",
    };
    private static final String[] CONSTANTS = {"NONE", "UNKNOWN", "OUTSIDE", "STATE", "FULL"};
    private static final String[] RULED_OUT = {
        "\\bthrow\\b", "\\bthrows\\b", "\\btry\\b", "\\bcatch\\b", "\\bfinally\\b", "\\bsynchronized\\b",
        "\\bassert\\b", "->", "::", "\\bimport\\b", "\\bpackage\\b", "\\bSystem\\b", "\\bThread\\b",
        "\\bRandom\\b", "Exact\\b", "\\bstatic\\s*\\{", "\\bgoto\\b", "\\bvolatile\\b", "\\bnative\\b",
    };

    /** What of the library the program uses; all of it stands in LANGUAGE.md. */
    private static final String LIBRARY = "Math\\.(abs|floorDiv|max|min)|Integer\\.bitCount";
    private static final int LONGEST_METHOD = 60;

    private final Checks checks = new Checks();

    public static void main(String[] args) throws IOException {
        LanguageTest test = new LanguageTest();
        test.face();
        test.constants();
        test.nestedClasses();
        test.words(test.code());
        test.library(test.code());
        test.methodLengths(test.code());
        test.objectsMade(test.code());
        test.checks.end();
    }

    private void face() {
        Class<?> type = ArcRings.class;
        checks.holds("the class is public and final",
            Modifier.isPublic(type.getModifiers()) && Modifier.isFinal(type.getModifiers()));
        Constructor<?>[] constructors = type.getDeclaredConstructors();
        checks.due("constructors", 1, constructors.length);
        checks.holds("the constructor is public and takes nothing",
            Modifier.isPublic(constructors[0].getModifiers()) && constructors[0].getParameterCount() == 0);
        Set<String> open = new TreeSet<>();
        Set<String> openNames = new TreeSet<>();
        for (Method method : type.getDeclaredMethods()) {
            if (!Modifier.isPrivate(method.getModifiers()) && !method.isSynthetic()) {
                open.add(signature(method));
                openNames.add(method.getName());
                checks.holds(method.getName() + " is public", Modifier.isPublic(method.getModifiers()));
                checks.holds(method.getName() + " is no static one", !Modifier.isStatic(method.getModifiers()));
            }
        }
        Set<String> due = new TreeSet<>(List.of(FACE));
        checks.holds("the face is the document's: " + open, open.equals(due));
        for (Class<?> each : classes()) {
            for (Method method : each.getDeclaredMethods()) {
                boolean clashes = each != type && openNames.contains(method.getName())
                    || each == type && Modifier.isPrivate(method.getModifiers()) && openNames.contains(method.getName());
                checks.holds(each.getSimpleName() + "." + method.getName() + " bears no name of the face", !clashes);
                checks.holds(method.getName() + " takes seven at most", method.getParameterCount() <= 7);
            }
        }
    }

    private void constants() {
        Set<String> open = new TreeSet<>();
        for (Field field : ArcRings.class.getDeclaredFields()) {
            if (!Modifier.isPrivate(field.getModifiers()) && !field.isSynthetic()) {
                open.add(field.getName());
                checks.holds(field.getName() + " is public static final",
                    (field.getModifiers() & 0x19) == 0x19 && field.getType() == int.class);
            }
        }
        checks.holds("the constants are the document's: " + open, open.equals(new TreeSet<>(List.of(CONSTANTS))));
        checks.due("NONE", -1, ArcRings.NONE);
        checks.due("UNKNOWN", -101, ArcRings.UNKNOWN);
        checks.due("OUTSIDE", -102, ArcRings.OUTSIDE);
        checks.due("STATE", -103, ArcRings.STATE);
        checks.due("FULL", -104, ArcRings.FULL);
    }

    private void nestedClasses() {
        checks.holds("twelve classes at most", classes().size() <= 12);
        for (Class<?> each : classes()) {
            int fields = 0;
            for (Field field : each.getDeclaredFields()) {
                boolean isStatic = Modifier.isStatic(field.getModifiers());
                checks.holds(each.getSimpleName() + "." + field.getName() + " is final if static",
                    !isStatic || Modifier.isFinal(field.getModifiers()));
                fields += isStatic ? 0 : 1;
            }
            checks.holds(each.getSimpleName() + " has twenty fields at most", fields <= 20);
            if (each != ArcRings.class) {
                checks.holds(each.getSimpleName() + " is static and not public",
                    Modifier.isStatic(each.getModifiers()) && !Modifier.isPublic(each.getModifiers()));
            }
        }
    }

    /** The program without its comments and signs. */
    private String code() throws IOException {
        byte[] bytes = Files.readAllBytes(Path.of("src/main/java/ArcRings.java"));
        boolean plain = true;
        for (byte each : bytes) {
            plain &= each > 0;
        }
        checks.holds("every sign is 1 to 127", plain);
        return new String(bytes, StandardCharsets.US_ASCII)
            .replaceAll("(?s)/\\*.*?\\*/", " ").replaceAll("//[^\n]*", " ").replaceAll("'(\\\\.|[^'\\\\])'", "'0'");
    }

    private void words(String code) {
        for (String each : RULED_OUT) {
            Matcher found = Pattern.compile(each).matcher(code);
            checks.holds("the program has no " + each, !found.find());
        }
    }

    /** A name that begins with a great letter and has a point behind it is a class of the library. */
    private void library(String code) {
        Matcher used = Pattern.compile("\\b[A-Z][a-z]\\w*\\.\\w+").matcher(code);
        while (used.find()) {
            checks.holds("LANGUAGE.md has " + used.group(), used.group().matches(LIBRARY));
        }
    }

    /** A method of the class begins four signs in, one of a class inside it eight; its end stands as far in. */
    private void methodLengths(String code) {
        Matcher method = Pattern.compile("(?m)^( {4}| {8})(?! )[^\n;=]*\\)[^\n;=]* \\{\n(?s:.*?)\n\\1\\}$").matcher(code);
        int found = 0;
        while (method.find()) {
            int lines = method.group().split("\n").length;
            checks.holds("a method has " + lines + " lines: " + method.group().split("\n")[0], lines <= LONGEST_METHOD);
            found++;
        }
        checks.holds("methods were found", found > 24);
    }

    /** README.md says that no call makes an object: each is made by a field or by the constructor. */
    private void objectsMade(String code) {
        int from = code.indexOf("public ArcRings() {");
        int to = code.indexOf("}", from);
        checks.holds("the constructor was found", from >= 0 && to > from);
        Matcher made = Pattern.compile("(?m)^.*\\bnew\\b.*$").matcher(code);
        while (made.find()) {
            boolean byConstructor = made.start() > from && made.start() < to;
            checks.holds("made by a field or the constructor: " + made.group().trim(),
                byConstructor || made.group().trim().startsWith("final "));
        }
    }

    private static List<Class<?>> classes() {
        List<Class<?>> all = new ArrayList<>();
        all.add(ArcRings.class);
        all.addAll(List.of(ArcRings.class.getDeclaredClasses()));
        return all;
    }

    private static String signature(Method method) {
        StringBuilder text = new StringBuilder();
        text.append(method.getReturnType().getSimpleName()).append(' ').append(method.getName()).append('(');
        Class<?>[] types = method.getParameterTypes();
        for (int i = 0; i < types.length; i++) {
            text.append(i == 0 ? "" : ",").append(types[i].getSimpleName());
        }
        return text.append(')').toString();
    }
}
