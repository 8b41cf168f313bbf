import java.lang.reflect.Method;
import java.lang.reflect.Modifier;
import java.nio.file.Files;
import java.nio.file.Path;
import java.util.ArrayList;
import java.util.List;
import java.util.Set;
import java.util.TreeSet;
import java.util.regex.Matcher;
import java.util.regex.Pattern;

/**
 * Writes ReadmeRuns.java out of README.md: its Java lines as they stand there, and behind each that
 * names an answer a check of it; of the words around them, the numbers of constants. Fails if a call
 * of the face is shown nowhere with its answer, or a remark in the Java lines begins with none.
 */
public final class Readme {
    private static final Pattern NAMED = Pattern.compile("int (\\w+) = (.*);\\s*// (-?\\d+|[A-Z]+)\\b.*");
    private static final Pattern CALLED = Pattern.compile("(\\w+\\.(\\w+)\\(.*\\));\\s*// (-?\\d+|[A-Z]+)\\b.*");
    private static final Pattern CONSTANT = Pattern.compile("`([A-Z]+)` \\((-?\\d+)\\)");
    private static final Pattern CALL = Pattern.compile("\\w+\\.(\\w+)\\(.*\\)");

    private final Set<String> shown = new TreeSet<>();
    private final List<String> unclear = new ArrayList<>();
    private int answers;

    public static void main(String[] args) throws Exception {
        Readme readme = new Readme();
        List<String> runs = readme.runsOf(Files.readAllLines(Path.of(args[0])));
        Set<String> missing = callsOfTheFace();
        missing.removeAll(readme.shown);
        if (!missing.isEmpty() || !readme.unclear.isEmpty()) {
            System.err.println("README.md shows no answer of " + missing + " nor in the lines " + readme.unclear);
            System.exit(1);
        }
        System.out.print(String.join("\n", runs) + "\n");
    }

    private static Set<String> callsOfTheFace() {
        Set<String> names = new TreeSet<>();
        for (Method m : TableArms.class.getDeclaredMethods()) {
            if (Modifier.isPublic(m.getModifiers())) {
                names.add(m.getName());
            }
        }
        return names;
    }

    private List<String> runsOf(List<String> lines) {
        List<String> runs = new ArrayList<>(List.of("public final class ReadmeRuns {",
                "private static int wrong = 0;",
                "private static void due(int line, int got, int want) {",
                "if (got != want) { wrong++; System.out.println(\"README.md, line \" + line + \": \" + got); } }",
                "public static void main(String[] args) {"));
        boolean inJava = false;
        for (int k = 0; k < lines.size(); k++) {
            if (lines.get(k).startsWith("```")) {
                inJava = lines.get(k).equals("```java");
            } else if (inJava) {
                runs.add(checked(lines.get(k), k + 1));
            } else {
                addConstants(runs, lines.get(k), k + 1);
            }
        }
        runs.add("System.out.println(\"README.md: " + answers + " answers, \" + wrong + \" not as the class gives them\");");
        runs.add("System.exit(wrong == 0 ? 0 : 1); } }");
        return runs;
    }

    private String checked(String line, int number) {
        Matcher named = NAMED.matcher(line);
        if (named.matches()) {
            Matcher call = CALL.matcher(named.group(2));
            show(call.matches() ? call.group(1) : "");
            String check = "due(" + number + ", " + named.group(1) + ", " + meant(named.group(3)) + ");";
            return "int " + named.group(1) + " = " + named.group(2) + "; " + check;
        }
        Matcher called = CALLED.matcher(line);
        if (called.matches()) {
            show(called.group(2));
            return "due(" + number + ", " + called.group(1) + ", " + meant(called.group(3)) + ");";
        }
        if (line.contains("//")) {
            unclear.add(line);
        }
        return line;
    }

    private void addConstants(List<String> runs, String line, int number) {
        Matcher constant = CONSTANT.matcher(line);
        while (constant.find()) {
            runs.add("due(" + number + ", " + meant(constant.group(1)) + ", " + constant.group(2) + ");");
            answers++;
        }
    }

    private void show(String call) {
        shown.add(call);
        answers++;
    }

    private static String meant(String answer) {
        return Character.isUpperCase(answer.charAt(0)) ? "TableArms." + answer : answer;
    }
}
