import java.lang.reflect.Method;
import java.lang.reflect.Modifier;
import java.nio.file.Files;
import java.nio.file.Path;
import java.util.regex.Matcher;
import java.util.regex.Pattern;

/** README.md: its example answers what it says, its tables hold all calls, and refused calls are refused as they tell. */
public final class ReadmeTest {
    private static final Pattern TOLD = Pattern.compile("for \\(char c : \"([^\"]*)\".*");
    private static final Pattern CALL = Pattern.compile("x\\.(\\w+)\\(([^)]*)\\); +// (-?\\d+)(?!\\d).*");
    private static final Pattern ROW_OF_A_TABLE = Pattern.compile("(?m)^\\| (`.*`) \\|.*\\| ([^|]*) ?\\|$");
    private static int wrong = 0;

    private static void due(String what, int got, int want) {
        if (got != want) {
            wrong++;
            System.out.println(what + ": " + got + ", due is " + want);
        }
    }

    private static int answer(LawOfCorners x, String name, String arguments) throws Exception {
        String[] texts = arguments.isBlank() ? new String[0] : arguments.split(",");
        Class<?>[] types = new Class<?>[texts.length];
        Object[] given = new Object[texts.length];
        for (int i = 0; i < texts.length; i++) {
            types[i] = int.class;
            given[i] = Integer.parseInt(texts[i].trim());
        }
        return (Integer) LawOfCorners.class.getMethod(name, types).invoke(x, given);
    }

    private static void checkExample(String example) throws Exception {
        LawOfCorners x = new LawOfCorners();
        int calls = 0;
        for (String line : example.split("\n")) {
            Matcher told = TOLD.matcher(line);
            Matcher call = CALL.matcher(line);
            if (told.matches()) {
                for (char c : told.group(1).toCharArray()) {
                    x.letter(c);
                }
            } else if (call.matches()) {
                calls++;
                due(line, answer(x, call.group(1), call.group(2)), Integer.parseInt(call.group(3)));
            } else if (!line.isBlank() && !line.startsWith("//") && !line.startsWith("LawOfCorners x = new LawOfCorners();")) {
                due("a line that this test can not read: " + line, 1, 0);
            }
        }
        due("calls in the example are few", calls < 5 ? 1 : 0, 0);
    }

    private static void checkTables(String readme) {
        StringBuilder named = new StringBuilder();
        Matcher m = ROW_OF_A_TABLE.matcher(readme);
        while (m.find()) {
            named.append(m.group(1)).append(' ');
        }
        int calls = 0;
        for (Method one : LawOfCorners.class.getDeclaredMethods()) {
            if (Modifier.isPublic(one.getModifiers())) {
                calls++;
                Matcher call = Pattern.compile("`" + one.getName() + "\\(([^)]*)\\)`").matcher(named);
                boolean found = call.find();
                due(one.getName() + " is in a table", found ? 1 : 0, 1);
                int parameters = !found || call.group(1).isBlank() ? 0 : call.group(1).split(",").length;
                due("parameters of " + one.getName(), parameters, one.getParameterCount());
            }
        }
        due("calls in the tables", named.toString().split("\\)`").length - 1, calls);
    }

    /** The refusals that a table tells of a call are those that the document tells of it, in its order. */
    private static void checkRefusals(String readme, String document) {
        Matcher m = ROW_OF_A_TABLE.matcher(readme);
        while (m.find()) {
            Matcher name = Pattern.compile("`(\\w+)\\(").matcher(m.group(1));
            StringBuilder due = new StringBuilder();
            while (name.find()) {
                Matcher promise = Pattern.compile("`int " + name.group(1) + "\\([^)]*\\)`: ([^\n]*)").matcher(document);
                due.append(promise.find() ? numbers(promise.group(1).replaceAll(".*REFUSALS -1 \\.\\. -6", "")) : "?");
            }
            due("refusals of " + m.group(1) + ": '" + numbers(m.group(2)) + "' against '" + due + "'",
                numbers(m.group(2)).contentEquals(due) ? 1 : 0, 1);
        }
    }

    private static String numbers(String text) {
        StringBuilder all = new StringBuilder();
        Matcher m = Pattern.compile("-[1-6](?!\\d)").matcher(text);
        while (m.find()) {
            all.append(m.group()).append(' ');
        }
        return all.toString();
    }

    private static void checkTestsAreTold(String readme) throws Exception {
        try (java.util.stream.Stream<Path> files = Files.list(Path.of("src/test/java"))) {
            for (Path file : files.toList()) {
                String name = file.getFileName().toString().replace(".java", "");
                due(name + " is told", readme.contains("`" + name + "`") ? 1 : 0, 1);
            }
        }
    }

    public static void main(String[] args) throws Exception {
        String readme = Files.readString(Path.of("README.md"));
        int from = readme.indexOf("```java\n") + 8;
        checkExample(readme.substring(from, readme.indexOf("```", from)));
        checkTables(readme);
        checkRefusals(readme, Files.readString(Path.of("../shared/DOC.md")));
        checkTestsAreTold(readme);
        System.out.println(wrong == 0 ? "README.md holds" : wrong + " faults");
        if (wrong != 0) {
            System.exit(1);
        }
    }
}
