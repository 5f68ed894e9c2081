import java.lang.reflect.Field;
import java.lang.reflect.Modifier;
import java.nio.file.Files;
import java.nio.file.Path;
import java.util.ArrayList;
import java.util.List;
import java.util.regex.Matcher;
import java.util.regex.Pattern;

/** What the text of the class shows of ../shared/LANGUAGE.md; .ci/run starts it in the project's folder. */
public final class LanguageTest {
    private static final String FACE = "letter town square turnTo set heard walk steps corners fines straight longest"
        + " words unheard talk meet roundOff newNiche enough quiet yards said row judge clear lots image on count";
    private static final String BANNED = "throw throws try catch finally synchronized assert import instanceof"
        + " System Thread Object protected volatile native transient double float var yield";
    private static final List<Class<?>> STATIC_TYPES = List.of(int.class, long.class, boolean.class, char.class, String.class,
        int[].class, long[].class, char[].class, byte[].class);
    private static final List<String> LIBRARY = List.of("Math.max", "Math.min", "Math.abs", "Integer.bitCount");
    private static int wrong = 0;

    private static void due(boolean holds, String what) {
        if (!holds) {
            wrong++;
            System.out.println(what);
        }
    }

    private static String withoutComments(String source) {
        return source.replaceAll("(?s)/\\*.*?\\*/", "").replaceAll("//[^\n]*", "");
    }

    private static void checkWords(String code) {
        for (String word : BANNED.split(" ")) {
            due(!Pattern.compile("\\b" + word + "\\b").matcher(code).find(), "there is a '" + word + "'");
        }
        due(!code.contains("->") && !code.contains("::"), "there is a lambda or a method reference");
        due(!code.contains("@"), "there is an annotation");
        for (int i = 0; i < code.length(); i++) {
            due(code.charAt(i) < 128, "a sign above 127 at " + i);
        }
    }

    private static void checkMethods(String code) {
        List<String> face = List.of(FACE.split(" "));
        List<String> met = new ArrayList<>();
        String head = "(?m)^( +)((?:public |private |static |final )*)([A-Za-z]+(?:\\[\\])?) ([a-zA-Z]+)\\(([^)]*)\\) \\{$";
        Matcher m = Pattern.compile(head).matcher(code);
        while (m.find()) {
            if (m.group(3).equals("new") || m.group(3).equals("else") || m.group(4).equals("LawOfCorners")) {
                continue;
            }
            boolean isPublic = m.group(2).startsWith("public");
            if (isPublic) {
                met.add(m.group(4));
            } else {
                due(!face.contains(m.group(4)), "no face, but its name: " + m.group(4));
                due(m.group(1).length() > 4 || m.group(2).startsWith("private"), "visible in the package: " + m.group(4));
            }
            int end = code.indexOf("\n" + m.group(1) + "}", m.end());
            int lines = code.substring(m.start(), end).split("\n").length + 1;
            due(lines <= 60, m.group(4) + " has " + lines + " lines");
            due(m.group(5).split(",").length <= 7, m.group(4) + " takes too many parameters");
        }
        due(met.equals(face), "the face is not as due: " + met);
    }

    private static void checkClasses(String code) {
        int classes = 0;
        Matcher m = Pattern.compile("(?m)^( *)(.*\\b(?:class|interface|enum|record) [A-Z].*)\\{$").matcher(code);
        while (m.find()) {
            classes++;
            due(m.group(1).isEmpty() || m.group(2).contains("static"), "a class inside is not static: " + m.group(2));
            due(m.group(1).isEmpty() || m.group(2).contains("private"), "a class inside is not private: " + m.group(2));
        }
        due(classes > 0 && classes <= 12, classes + " classes");
    }

    private static void checkFields(Class<?> of) {
        int own = 0;
        for (Field field : of.getDeclaredFields()) {
            boolean isStatic = Modifier.isStatic(field.getModifiers());
            own += isStatic ? 0 : 1;
            due(!isStatic || Modifier.isFinal(field.getModifiers()), "static and not final: " + field);
            due(!isStatic || STATIC_TYPES.contains(field.getType()), "static, but no constant: " + field);
        }
        due(own <= 20, own + " fields in " + of);
        due(of.getSuperclass() == Object.class, of + " has a class above it");
    }

    /** What the source calls that it does not write itself stands in rule 4. */
    private static void checkLibrary(String code) {
        Matcher m = Pattern.compile("\\b(Math|Integer|Long|String|Arrays|StringBuilder|ArrayList|List)\\.(\\w+)").matcher(code);
        while (m.find()) {
            due(LIBRARY.contains(m.group()), "not in the library: " + m.group());
        }
        due(!Pattern.compile("\"\\s*\\+|\\+\\s*\"").matcher(code).find(), "texts joined by +");
        m = Pattern.compile("while \\(([^)]*)\\)").matcher(code);
        while (m.find()) {
            due(m.group(1).contains("<") || m.group(1).contains(">"), "a loop whose end can not be seen: " + m.group());
        }
    }

    public static void main(String[] args) throws Exception {
        String code = withoutComments(Files.readString(Path.of("src/main/java/LawOfCorners.java")));
        due(code.trim().startsWith("public final class LawOfCorners"), "the class is not the first thing");
        checkWords(code);
        checkMethods(code);
        checkClasses(code);
        checkLibrary(code);
        checkFields(LawOfCorners.class);
        for (Class<?> inside : LawOfCorners.class.getDeclaredClasses()) {
            checkFields(inside);
        }
        System.out.println(wrong == 0 ? "the language is kept to" : wrong + " faults");
        if (wrong != 0) {
            System.exit(1);
        }
    }
}
