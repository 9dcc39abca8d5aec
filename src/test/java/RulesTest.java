import java.io.IOException;
import java.lang.reflect.Constructor;
import java.lang.reflect.Field;
import java.lang.reflect.Method;
import java.lang.reflect.Modifier;
import java.nio.file.Files;
import java.nio.file.Path;
import java.util.Arrays;
import java.util.TreeSet;
import java.util.regex.Matcher;
import java.util.regex.Pattern;

/** The public face, and the rules of LANGUAGE.md that the members or the text of the class show. Run in the project's folder. */
public final class RulesTest {
    private static final Checks CHECKS = new Checks();
    private static final Path SOURCE = Path.of("src/main/java/ResinWoods.java");
    private static final String[] FACE = {
        "int tree(int, int, int)", "int bears(int)", "boolean weather(int, int, int, int)", "int cut(int, int)",
        "boolean rests(int)", "int go(int)", "int face(int, int, int)", "int empty(int)", "int barrel(int, int)",
        "int from(int, int)", "int still(int)", "boolean let(int, int)", "int due(int)", "int pay(int)",
        "int burn(int)", "int walk(int, int, int, int)", "int walked(int, int, int, int)", "int count(int)",
    };
    private static final String[] FORBIDDEN_WORDS = {
        "throw", "throws", "try", "catch", "synchronized", "assert", "package", "hashCode", "toString", "Random",
        "System", "Thread", "Exact", "Object", "var", "volatile", "transient", "native", "NaN",
    };

    public static void main(String[] args) throws IOException {
        membersAreTheFace();
        classesInsideAreStatic();
        textKeepsToTheRules(Files.readString(SOURCE));
        CHECKS.end();
    }

    private static void membersAreTheFace() {
        Class<?> type = ResinWoods.class;
        CHECKS.holds("public and final", Modifier.isPublic(type.getModifiers()) && Modifier.isFinal(type.getModifiers()));
        TreeSet<String> seen = new TreeSet<>();
        TreeSet<String> names = new TreeSet<>();
        for (Method m : type.getDeclaredMethods()) {
            if (Modifier.isPublic(m.getModifiers())) {
                String parameters = Arrays.toString(m.getParameterTypes()).replace("[", "(").replace("]", ")");
                seen.add(m.getReturnType() + " " + m.getName() + parameters);
                names.add(m.getName());
                CHECKS.fails(m.getName() + " is static", Modifier.isStatic(m.getModifiers()));
            }
        }
        CHECKS.holds("public methods " + seen, seen.equals(new TreeSet<>(Arrays.asList(FACE))));
        for (Method m : type.getDeclaredMethods()) {
            boolean isPrivate = Modifier.isPrivate(m.getModifiers());
            CHECKS.holds(m + " is public or private", isPrivate || Modifier.isPublic(m.getModifiers()));
            CHECKS.fails(m + " is private and bears a public name", isPrivate && names.contains(m.getName()));
        }
        for (Field f : type.getDeclaredFields()) {
            boolean isNone = f.getName().equals("NONE") && Modifier.isPublic(f.getModifiers());
            CHECKS.holds(f + " is private", isNone || Modifier.isPrivate(f.getModifiers()));
        }
        Constructor<?>[] made = type.getDeclaredConstructors();
        CHECKS.due("constructors", made.length, 1);
        CHECKS.holds("public, without parameters",
            Modifier.isPublic(made[0].getModifiers()) && made[0].getParameterCount() == 0);
    }

    private static void classesInsideAreStatic() {
        Class<?>[] inside = ResinWoods.class.getDeclaredClasses();
        CHECKS.holds("at most twelve classes", inside.length + 1 <= 12);
        checkFields(ResinWoods.class);
        for (Class<?> type : inside) {
            int bits = type.getModifiers();
            CHECKS.holds(type + " is static", Modifier.isStatic(bits));
            CHECKS.fails(type + " is public or protected", Modifier.isPublic(bits) || Modifier.isProtected(bits));
            checkFields(type);
        }
    }

    private static void checkFields(Class<?> type) {
        int own = 0;
        for (Field f : type.getDeclaredFields()) {
            if (Modifier.isStatic(f.getModifiers())) {
                CHECKS.holds(f + " is final", Modifier.isFinal(f.getModifiers()));
            } else {
                own++;
            }
        }
        CHECKS.holds(type + " has at most twenty fields", own <= 20);
        for (Method m : type.getDeclaredMethods()) {
            CHECKS.holds(m + " takes at most seven", m.getParameterCount() <= 7);
        }
    }

    private static void textKeepsToTheRules(String text) {
        String code = text.replaceAll("(?s)/\\*.*?\\*/", " ").replaceAll("//[^\n]*", " ");
        for (String word : FORBIDDEN_WORDS) {
            CHECKS.fails("the word " + word, Pattern.compile("\\b" + word + "\\b").matcher(code).find());
        }
        CHECKS.fails("a lambda or a method reference", code.contains("->") || code.contains("::"));
        CHECKS.fails("a static initialiser", Pattern.compile("static\\s*\\{").matcher(code).find());
        Matcher imports = Pattern.compile("import\\s+([^;]+);").matcher(code);
        while (imports.find()) {
            String name = imports.group(1).trim();
            CHECKS.holds("import " + name, Arrays.asList("java.util.ArrayList", "java.util.List").contains(name));
        }
        Matcher calls = Pattern.compile("\\b(Math|Integer|Long|Arrays)\\.(\\w+)").matcher(code);
        while (calls.find()) {
            CHECKS.holds(calls.group(), Arrays.asList("min", "max", "abs", "bitCount").contains(calls.group(2)));
        }
        CHECKS.holds("characters up to 255", text.chars().allMatch(c -> c < 256));
    }
}
