import java.io.IOException;
import java.lang.reflect.Field;
import java.lang.reflect.Method;
import java.lang.reflect.Modifier;
import java.nio.file.Files;
import java.nio.file.Path;
import java.util.ArrayList;
import java.util.List;
import java.util.Set;
import java.util.TreeSet;
import java.util.regex.Matcher;
import java.util.regex.Pattern;

/** LANGUAGE.md: what of its rules can be seen in the class's file and by reflection. Run from the project's root. */
public final class LanguageTest {
    private static final Path SOURCE = Path.of("src/main/java/SegmentBench.java");
    private static final int MOST_CLASSES = 12;
    private static final int MOST_FIELDS = 20;
    private static final int MOST_PARAMETERS = 7;
    private static final int MOST_LINES = 60;
    private static final Set<Class<?>> CONSTANTS = Set.of(int.class, long.class, boolean.class, char.class, String.class,
            int[].class, long[].class, char[].class, byte[].class);

    public static void main(String[] args) throws IOException {
        List<Class<?>> all = new ArrayList<>();
        all.add(SegmentBench.class);
        all.addAll(List.of(SegmentBench.class.getDeclaredClasses()));
        Check.same("rule 11, classes", "" + (all.size() <= MOST_CLASSES), "true");
        Set<String> face = new TreeSet<>();
        for (Method method : SegmentBench.class.getDeclaredMethods()) {
            if (Modifier.isPublic(method.getModifiers())) {
                face.add(method.getName());
            }
        }
        for (Class<?> type : all) {
            judgeClass(type);
            judgeFields(type);
            judgeMethods(type, face);
        }
        String source = Files.readString(SOURCE);
        judgeWords(source);
        judgeThrows(source);
        judgeLengths(source);
        Check.end();
    }

    private static void no(String rule, boolean broken) {
        Check.same(rule, broken ? "broken" : "kept", "kept");
    }

    private static void judgeClass(Class<?> type) {
        if (type != SegmentBench.class) {
            no("rule 1, " + type + " is static", !Modifier.isStatic(type.getModifiers()));
            no("rule 1, " + type + " is not open", Modifier.isPublic(type.getModifiers())
                    || Modifier.isProtected(type.getModifiers()));
        }
        no("rule 2, " + type + " has none inside", type != SegmentBench.class && type.getDeclaredClasses().length > 0);
    }

    private static void judgeFields(Class<?> type) {
        int own = 0;
        for (Field field : type.getDeclaredFields()) {
            if (Modifier.isStatic(field.getModifiers())) {
                no("rule 5, " + field + " is final", !Modifier.isFinal(field.getModifiers()));
                no("rule 5, type of " + field, !CONSTANTS.contains(field.getType()));
            } else {
                own++;
            }
        }
        no("rule 11, fields of " + type, own > MOST_FIELDS);
    }

    private static void judgeMethods(Class<?> type, Set<String> face) {
        for (Method method : type.getDeclaredMethods()) {
            no("rule 11, parameters of " + method, method.getParameterCount() > MOST_PARAMETERS);
            no("rule 1, name of " + method, !Modifier.isPublic(method.getModifiers()) && face.contains(method.getName()));
        }
    }

    /** Comments and texts have words that mean nothing to the rules. */
    private static String bare(String source) {
        return source.replaceAll("(?s)/\\*.*?\\*/", "").replaceAll("//.*", "").replaceAll("\"[^\"]*\"", "\"\"");
    }

    /** Catches, doubles and floats have a place in the rules, but the class needs none. */
    private static void judgeWords(String source) {
        String code = bare(source);
        String[] refused = {"->", "::", "\\bfinally\\b", "\\bsynchronized\\b", "\\bassert\\b", "\\bcatch\\b", "Exact\\b",
            "\\bdouble\\b", "\\bfloat\\b", "\\bObject\\b", "\\bSystem\\.(?!arraycopy)", "\\bpackage\\b", "\\bvar\\b",
            "\"\" *\\+", "\\+ *\"\""};
        for (String word : refused) {
            no("no " + word, Pattern.compile(word).matcher(code).find());
        }
        Matcher imports = Pattern.compile("(?m)^import (.*);").matcher(code);
        while (imports.find()) {
            no("rule 4, import " + imports.group(1), !imports.group(1).equals("java.util.Arrays")
                    && !imports.group(1).equals("java.util.NoSuchElementException"));
        }
        no("plain signs", !source.chars().allMatch(sign -> sign == '\n' || sign >= 32 && sign < 127));
        no("rule 9, loops without a bound", Pattern.compile("while \\(true\\)|for \\(;;\\)").matcher(code).find());
    }

    /** "throw new E() or throw new E("a written text")" */
    private static void judgeThrows(String source) {
        Matcher thrown = Pattern.compile("\\bthrow\\b[^;]*;").matcher(bare(source));
        Pattern form = Pattern.compile("throw new (IllegalState|IllegalArgument|IndexOutOfBounds|Arithmetic"
                + "|UnsupportedOperation|NoSuchElement|Runtime)Exception\\((\"\")?\\);");
        while (thrown.find()) {
            no("rule 6, " + thrown.group(), !form.matcher(thrown.group()).matches());
        }
    }

    /** A method begins with a line that ends in a brace and ends with a brace as far in as that line. */
    private static void judgeLengths(String source) {
        String[] lines = source.split("\n");
        Pattern head = Pattern.compile("( {4}| {8})[^ /*}].*\\(.*");
        for (int i = 0; i < lines.length; i++) {
            if (!head.matcher(lines[i]).matches() || lines[i].endsWith(";")) {
                continue;
            }
            String end = lines[i].replaceAll("\\S.*", "") + "}";
            int last = i;
            while (last < lines.length - 1 && !lines[last].equals(end)) {
                last++;
            }
            no("rule 11, length of " + lines[i].trim(), last - i + 1 > MOST_LINES);
        }
    }
}
