import java.io.IOException;
import java.lang.reflect.Constructor;
import java.lang.reflect.Field;
import java.lang.reflect.Method;
import java.lang.reflect.Modifier;
import java.nio.file.Files;
import java.nio.file.Path;
import java.util.Arrays;
import java.util.List;
import java.util.TreeSet;
import java.util.regex.Matcher;
import java.util.regex.Pattern;

/** The public face, and the rules of LANGUAGE.md that the members or the text of the class show. Run in the project's folder. */
public final class RulesTest {
    private static final Checks CHECKS = new Checks();
    private static final Path SOURCE = Path.of("src/main/java/ResinWoods.java");
    private static final Path DOCUMENT = Path.of("../shared/DOC.md");
    private static final int MOST_LINES_OF_A_METHOD = 60;
    private static final String[] FACE = {
        "int tree(int, int, int)", "int bears(int)", "boolean weather(int, int, int, int)", "int cut(int, int)",
        "boolean rests(int)", "int go(int)", "int face(int, int, int)", "int empty(int)", "int barrel(int, int)",
        "int from(int, int)", "int still(int)", "boolean let(int, int)", "int due(int)", "int pay(int)",
        "int burn(int)", "int walk(int, int, int, int)", "int walked(int, int, int, int)", "int count(int)",
    };
    private static final List<Class<?>> STATIC_TYPES = List.of(int.class, long.class, boolean.class, char.class,
        String.class, int[].class, long[].class, char[].class, byte[].class);
    private static final String[] FORBIDDEN_WORDS = {
        "throw", "throws", "try", "catch", "synchronized", "assert", "package", "hashCode", "toString", "Random",
        "System", "Thread", "Exact", "Object", "var", "volatile", "transient", "native", "NaN",
    };

    public static void main(String[] args) throws IOException {
        String text = Files.readString(SOURCE);
        membersAreTheFace();
        nothingIsInherited();
        documentHasThisFace(text);
        classesInsideAreStatic();
        textKeepsToTheRules(text);
        methodsAreShort(text);
        onlyWhatIsKeptIsMade(text);
        CHECKS.end();
    }

    private static void membersAreTheFace() {
        Class<?> type = ResinWoods.class;
        CHECKS.holds("public and final", Modifier.isPublic(type.getModifiers()) && Modifier.isFinal(type.getModifiers()));
        TreeSet<String> seen = new TreeSet<>();
        TreeSet<String> names = new TreeSet<>();
        for (Method m : type.getDeclaredMethods()) {
            if (Modifier.isPublic(m.getModifiers())) {
                String parameters = Arrays.toString(m.getParameterTypes()).replace("[", "(").replace("]", ")");
                seen.add(m.getReturnType() + " " + m.getName() + parameters);
                names.add(m.getName());
                CHECKS.fails(m.getName() + " is static", Modifier.isStatic(m.getModifiers()));
            }
        }
        CHECKS.holds("public methods " + seen, seen.equals(new TreeSet<>(Arrays.asList(FACE))));
        for (Method m : type.getDeclaredMethods()) {
            boolean isPrivate = Modifier.isPrivate(m.getModifiers());
            CHECKS.holds(m + " is public or private", isPrivate || Modifier.isPublic(m.getModifiers()));
            CHECKS.fails(m + " is private and bears a public name", isPrivate && names.contains(m.getName()));
        }
        for (Field f : type.getDeclaredFields()) {
            boolean isNone = f.toString().equals("public static final int ResinWoods.NONE");
            CHECKS.holds(f + " is private", isNone || Modifier.isPrivate(f.getModifiers()));
        }
        CHECKS.due("public constants", type.getFields().length, 1);
        Constructor<?>[] made = type.getDeclaredConstructors();
        CHECKS.due("constructors", made.length, 1);
        CHECKS.holds("public, without parameters",
            Modifier.isPublic(made[0].getModifiers()) && made[0].getParameterCount() == 0);
    }

    /** What comes from a class above or an interface would be public too. */
    private static void nothingIsInherited() {
        CHECKS.holds("no class above", ResinWoods.class.getSuperclass() == Object.class);
        CHECKS.due("interfaces", ResinWoods.class.getInterfaces().length, 0);
        CHECKS.due("public classes inside", ResinWoods.class.getClasses().length, 0);
    }

    /** The heads as the document writes them, names of parameters among them, stand in the class, and no others. */
    private static void documentHasThisFace(String text) throws IOException {
        if (!Files.isReadable(DOCUMENT)) {
            System.out.println("no document here to look into");
            return;
        }
        String document = Files.readString(DOCUMENT);
        int begin = document.indexOf("```java");
        TreeSet<String> wanted = publicHeads(document.substring(begin, document.indexOf("```", begin + 3)));
        CHECKS.holds("the class has " + wanted, publicHeads(text).equals(wanted));
        CHECKS.due("heads", wanted.size(), FACE.length + 3);
    }

    private static TreeSet<String> publicHeads(String code) {
        TreeSet<String> heads = new TreeSet<>();
        Matcher found = Pattern.compile("(?m)^ *(public [^;{]*?) *[;{]").matcher(code);
        while (found.find()) {
            heads.add(found.group(1));
        }
        return heads;
    }

    private static void classesInsideAreStatic() {
        Class<?>[] inside = ResinWoods.class.getDeclaredClasses();
        CHECKS.holds("at most twelve classes", inside.length + 1 <= 12);
        checkFields(ResinWoods.class);
        for (Class<?> type : inside) {
            int bits = type.getModifiers();
            CHECKS.holds(type + " is static", Modifier.isStatic(bits));
            CHECKS.fails(type + " is public or protected", Modifier.isPublic(bits) || Modifier.isProtected(bits));
            checkFields(type);
        }
    }

    private static void checkFields(Class<?> type) {
        int own = 0;
        for (Field f : type.getDeclaredFields()) {
            if (Modifier.isStatic(f.getModifiers())) {
                CHECKS.holds(f + " is final", Modifier.isFinal(f.getModifiers()));
                CHECKS.holds(f + " is of a type that constants may have", STATIC_TYPES.contains(f.getType()));
            } else {
                own++;
            }
        }
        CHECKS.holds(type + " has at most twenty fields", own <= 20);
        for (Method m : type.getDeclaredMethods()) {
            CHECKS.holds(m + " takes at most seven", m.getParameterCount() <= 7);
        }
    }

    private static void textKeepsToTheRules(String text) {
        String code = text.replaceAll("(?s)/\\*.*?\\*/", " ").replaceAll("//[^\n]*", " ");
        for (String word : FORBIDDEN_WORDS) {
            CHECKS.fails("the word " + word, Pattern.compile("\\b" + word + "\\b").matcher(code).find());
        }
        CHECKS.fails("a lambda or a method reference", code.contains("->") || code.contains("::"));
        CHECKS.fails("a static initialiser", Pattern.compile("static\\s*\\{").matcher(code).find());
        Matcher imports = Pattern.compile("import\\s+([^;]+);").matcher(code);
        while (imports.find()) {
            String name = imports.group(1).trim();
            CHECKS.holds("import " + name, Arrays.asList("java.util.ArrayList", "java.util.List").contains(name));
        }
        Matcher calls = Pattern.compile("\\b(Math|Integer|Long|Arrays)\\.(\\w+)").matcher(code);
        while (calls.find()) {
            CHECKS.holds(calls.group(), Arrays.asList("min", "max", "abs", "bitCount").contains(calls.group(2)));
        }
        CHECKS.holds("characters up to 255", text.chars().allMatch(c -> c < 256));
    }
    /** By the indentation: a head that ends with a brace, up to the brace below it. */
    private static void methodsAreShort(String text) {
        String[] lines = text.split("\n");
        int methods = 0;
        for (int first = 0; first < lines.length; first++) {
            if (lines[first].matches(" +(public |private |static )*[\\w\\[\\]<>]* ?\\w+\\([^()]*\\) \\{")
                && !lines[first].trim().matches("(if|for|while|switch) .*")) {
                String end = lines[first].replaceAll("\\S.*", "") + "}";
                int last = first;
                while (last < lines.length - 1 && !lines[last].equals(end)) {
                    last++;
                }
                CHECKS.holds(lines[first].trim() + " has few lines", last - first + 1 <= MOST_LINES_OF_A_METHOD);
                methods++;
            }
        }
        CHECKS.holds("the methods are found", methods > FACE.length);
    }
    /** All calls of a run share one room: beside fields' initialisers, only what the document bounds is made. */
    private static void onlyWhatIsKeptIsMade(String text) {
        List<String> kept = Arrays.asList("Wood", "Tree", "Face", "Barrel");
        for (String line : text.split("\n")) {
            Matcher made = Pattern.compile("\\bnew (\\w+)").matcher(line);
            boolean isField = line.matches(" +(private )?final .* = new .*;");
            if (made.find() && !isField) {
                CHECKS.holds(line.trim() + " makes what is kept", kept.contains(made.group(1)));
            }
        }
    }
}
