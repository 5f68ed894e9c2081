import java.lang.reflect.Constructor;
import java.lang.reflect.Field;
import java.lang.reflect.Method;
import java.lang.reflect.Modifier;
import java.nio.file.Files;
import java.nio.file.Path;
import java.util.ArrayList;
import java.util.Collections;
import java.util.List;
import java.util.regex.Matcher;
import java.util.regex.Pattern;

/** The document beside class and tests: its face is the class's, its words are those the tests quote, none is left out. */
public final class DocumentTest {
    private static final Path DOCUMENT = Path.of("../shared/DOC.md");
    private static final Path TESTS = Path.of("src/test/java");
    private static int wrong = 0;

    private static void wrong(String what) {
        wrong++;
        System.out.println(what);
    }

    private static String spaced(String text) {
        return text.replaceAll("\\s+", " ").trim();
    }

    private static String between(String text, String first, String last) {
        int from = text.indexOf(first);
        int to = text.indexOf(last, from + first.length());
        return from < 0 || to < 0 ? "" : text.substring(from + first.length(), to);
    }

    // ---- the face

    private static String typesOf(Class<?>[] types) {
        List<String> all = new ArrayList<>();
        for (Class<?> type : types) {
            all.add(type.getName());
        }
        return String.join(", ", all);
    }

    private static List<String> faceOfTheDocument(String document) {
        List<String> all = new ArrayList<>();
        for (String line : between(document, "```java", "```").split(";|\\{|\\}")) {
            // Names of parameters tell nothing that a call could see.
            all.add(spaced(line).replaceAll("(int|long|boolean|String) \\w+(?=[,)])", "$1"));
        }
        all.removeIf(String::isEmpty);
        Collections.sort(all);
        return all;
    }

    private static List<String> faceOfTheClass() {
        List<String> all = new ArrayList<>();
        Class<?> of = LawOfCorners.class;
        all.add(Modifier.toString(of.getModifiers()) + " class " + of.getName());
        for (Constructor<?> one : of.getDeclaredConstructors()) {
            all.add(Modifier.toString(one.getModifiers()) + " " + one.getName() + "(" + typesOf(one.getParameterTypes()) + ")");
        }
        for (Method one : of.getDeclaredMethods()) {
            if (!Modifier.isPrivate(one.getModifiers()) && !one.isSynthetic()) {
                String head = Modifier.toString(one.getModifiers()) + " " + one.getReturnType().getName();
                all.add(head + " " + one.getName() + "(" + typesOf(one.getParameterTypes()) + ")");
            }
        }
        for (Field one : of.getDeclaredFields()) {
            if (!Modifier.isPrivate(one.getModifiers()) && !one.isSynthetic()) {
                all.add("a field " + one.getName());
            }
        }
        Collections.sort(all);
        return all;
    }

    private static void checkFace(String document) {
        List<String> due = faceOfTheDocument(document);
        List<String> got = faceOfTheClass();
        for (String one : due) {
            if (!got.contains(one)) {
                wrong("the class lacks: " + one);
            }
        }
        for (String one : got) {
            if (!due.contains(one)) {
                wrong("the document does not know: " + one);
            }
        }
        if (due.size() < 2 || LawOfCorners.class.getSuperclass() != Object.class || LawOfCorners.class.getInterfaces().length > 0) {
            wrong("no face, or a class above it");
        }
    }

    // ---- the quotations

    private static List<String> quotations() throws Exception {
        List<String> all = new ArrayList<>();
        try (java.util.stream.Stream<Path> files = Files.list(TESTS)) {
            for (Path file : files.sorted().toList()) {
                Matcher m = Pattern.compile("Checks\\.sentence\\(\"((?:[^\"\\\\]|\\\\.|\"\\s*\\+\\s*\")*)\"\\)").matcher(Files.readString(file));
                while (m.find()) {
                    all.add(spaced(m.group(1).replaceAll("(?<!\\\\)\"\\s*\\+\\s*\"", "").replace("\\\"", "\"")));
                }
            }
        }
        return all;
    }

    /** A ".." in a quotation is the document's own, or stands for words left out. */
    private static void mark(String document, boolean[] quoted, String quotation) {
        String[] parts = quotation.split(" \\.\\. ");
        for (int first = 0; first < parts.length; ) {
            String words = parts[first];
            int behind = first + 1;
            while (behind < parts.length && document.contains(words + " .. " + parts[behind])) {
                words = words + " .. " + parts[behind];
                behind++;
            }
            if (!document.contains(words)) {
                wrong("not in the document: '" + words + "' of '" + quotation + "'");
            }
            for (int at = document.indexOf(words); at >= 0 && words.length() > 6; at = document.indexOf(words, at + 1)) {
                java.util.Arrays.fill(quoted, at, at + words.length(), true);
            }
            first = behind;
        }
    }

    private static void checkQuotations(String document) throws Exception {
        String promised = between(document, "## Terms", "## Not promised").replaceAll("## Promise \\d+: .*", " ");
        // The promises' heads are the face, once more.
        String words = spaced(promised.replaceAll("`(int )?\\w+\\([^)]*\\)`: ", " ").replace("```text", " ").replace("```", " ").replace("==== II.", " "));
        String all = words + " | " + spaced(between(document, "## What it is", "## The public face") + between(document, "## Not promised", "$"));
        boolean[] quoted = new boolean[all.length()];
        List<String> quotations = quotations();
        for (String quotation : quotations) {
            mark(all, quoted, quotation);
        }
        int left = 0;
        for (int at = 0; at < words.length(); at++) {
            left = quoted[at] ? 0 : left + 1;
            if (left > 0 && (at + 1 == words.length() || quoted[at + 1])) {
                String stretch = words.substring(at + 1 - left, at + 1);
                if (stretch.matches(".*[A-Za-z]{2}.*")) {
                    wrong("no test quotes: '" + stretch + "'");
                }
            }
        }
        System.out.println(quotations.size() + " quotations");
    }

    public static void main(String[] args) throws Exception {
        String document = Files.readString(DOCUMENT) + "$";
        checkFace(document);
        checkQuotations(document);
        System.out.println(wrong == 0 ? "the document is kept to" : wrong + " faults");
        if (wrong != 0) {
            System.exit(1);
        }
    }
}
