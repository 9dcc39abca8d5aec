import java.io.IOException;
import java.nio.file.Files;
import java.nio.file.Path;
import java.util.ArrayList;
import java.util.List;
import java.util.regex.Matcher;
import java.util.regex.Pattern;

/** README.md's example answers what README.md says, and each public method is told there. Run in the project's folder. */
public final class ReadmeTest {
    private static final Checks CHECKS = new Checks();
    private static final Path README = Path.of("README.md");
    private static final Path HERE = Path.of("src/test/java/ReadmeTest.java");
    private static final Path PROGRAM = Path.of("src/main/java/ResinWoods.java");
    /** A line of the example: the code, and the answer with which its comment begins. */
    private static final Pattern LINE = Pattern.compile("(\\S.*?;)(?:\\s*//\\s*(-?\\w+)?.*)?");

    public static void main(String[] args) throws IOException {
        List<String> code = new ArrayList<>();
        List<String> told = new ArrayList<>();
        readExample(Files.readString(README), code, told);
        String here = Files.readString(HERE).replaceAll("\\s+", " ");
        CHECKS.holds("the example is the one of this test", here.contains(String.join(" ", code)));
        CHECKS.holds("the answers are as README.md tells: " + told, told.equals(example()));
        everyCallIsTold(Files.readString(README), Files.readString(PROGRAM));
        CHECKS.end();
    }

    private static void readExample(String readme, List<String> code, List<String> told) {
        int begin = readme.indexOf("```java") + "```java".length();
        for (String line : readme.substring(begin, readme.indexOf("```", begin)).split("\n")) {
            Matcher parts = LINE.matcher(line.trim());
            if (parts.matches()) {
                code.add(parts.group(1));
                if (parts.group(2) != null) {
                    told.add(parts.group(2));
                }
            }
        }
    }

    private static List<String> example() {
        ResinWoods woods = new ResinWoods();
        int near = woods.tree(0, 12 * 100 + 34, 160);
        int far = woods.tree(0, 70 * 100 + 34, 230);
        boolean isLet = woods.let(0, 30);
        boolean isTold = woods.weather(0, 9, 7, 1);
        int streaks = woods.cut(near, 0);
        int others = woods.cut(far, 0);
        int now = woods.go(5);
        int first = woods.walk(1 << near | 1 << far, 0, 12 * 100 + 30, 0);
        int steps = woods.walked(1 << near | 1 << far, 0, 12 * 100 + 30, 1);
        int resin = woods.empty(near);
        int left = woods.due(0);
        int made = woods.still(0);
        int more = woods.empty(far);
        int over = woods.pay(1);
        int burnt = woods.burn(0);
        int refused = woods.cut(near, 0);
        List<String> answers = new ArrayList<>();
        for (Object answer : new Object[] {near, far, isLet, isTold, streaks, others, now, first, steps, resin, left,
            made, more, over, burnt, refused}) {
            answers.add(String.valueOf(answer));
        }
        return answers;
    }

    /** With the parameters' names as the class has them. */
    private static void everyCallIsTold(String readme, String program) {
        Matcher heads = Pattern.compile("(?m)^    public (?:int|boolean) (\\w+)\\(([^)]*)\\) \\{").matcher(program);
        int calls = 0;
        while (heads.find()) {
            String call = "`" + heads.group(1) + "(" + heads.group(2).replace("int ", "") + ")`";
            CHECKS.holds("README.md tells " + call, readme.contains(call));
            calls++;
        }
        CHECKS.due("calls", calls, 18);
    }
}
