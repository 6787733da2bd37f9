import java.io.IOException;
import java.lang.reflect.Field;
import java.lang.reflect.Method;
import java.lang.reflect.Modifier;
import java.nio.file.Files;
import java.nio.file.Path;
import java.util.ArrayList;
import java.util.List;
import java.util.Set;
import java.util.TreeSet;
import java.util.regex.Matcher;
import java.util.regex.Pattern;

/**
 * The rules of LANGUAGE.md that can be read off the source, its comments and texts left out, and off the class.
 * Where the rules leave more than the class needs (try, instanceof, double, ..), nothing of it may come in unseen:
 * who needs it takes it out of NEVER.
 */
public final class LanguageTest {
    private static final Checks t = new Checks();
    private static final Path SOURCE = Path.of("src", "main", "java", "WellVoice.java");
    private static final String[] NEVER = {"->", "::", "Exact\\(", "\\b(synchronized|assert|finally|try|catch|package)\\b",
        "\\b(getClass|hashCode|toString|equals|getMessage|instanceof)\\b", "\\bstatic \\{", "\\b(Random|Thread|File|Object)\\b",
        "System\\.(?!arraycopy\\()", "\\bimport (?!java\\.util\\.NoSuchElementException;)", "throw (?!new NoSuchElementException\\(\\);)",
        "Math\\.(?!(min|max)\\()", "Integer\\.(?!bitCount\\()", "\\b(double|float)\\b", "while \\(true\\)", "for \\(;"};
    private static final Pattern METHOD = Pattern.compile("^( {4,8})(?!\\s|return|else)[\\w\\[\\] ]+\\([^;]*\\)[^;]*\\{$");

    public static void main(String[] args) throws IOException {
        String code = Files.readString(SOURCE).replaceAll("(?s)/\\*.*?\\*/", "").replaceAll("//[^\\n]*", "")
            .replaceAll("\"[^\"\\n]*\"", "\"\"");
        for (String never : NEVER) {
            Matcher found = Pattern.compile(never).matcher(code);
            t.due("rules 3 to 10: " + never, found.find(), false);
        }
        t.due("rule 3: signs above 127", code.chars().anyMatch(sign -> sign > 127), false);
        lengths(code);
        List<Class<?>> classes = new ArrayList<>(List.of(WellVoice.class.getDeclaredClasses()));
        inside(classes);
        classes.add(WellVoice.class);
        t.due("rule 11: classes", classes.size() <= 12, true);
        for (Class<?> c : classes) {
            members(c);
        }
        t.finish("LanguageTest");
    }

    /** Rule 11: a method stays under some sixty lines. */
    private static void lengths(String code) {
        String[] lines = code.split("\n");
        int methods = 0;
        for (int begin = 0; begin < lines.length; begin++) {
            Matcher method = METHOD.matcher(lines[begin]);
            if (method.find()) {
                methods++;
                int end = begin;
                while (end < lines.length && !lines[end].equals(method.group(1) + "}")) {
                    end++;
                }
                t.due("rule 11: lines of " + lines[begin].trim(), end - begin < 60, true);
            }
        }
        t.due("methods found: " + methods, methods > 150, true);
    }

    /** Rules 1 and 2: classes inside are static, not public, and no method of theirs bears a name of the face. */
    private static void inside(List<Class<?>> classes) {
        Set<String> face = new TreeSet<>();
        for (Method m : WellVoice.class.getDeclaredMethods()) {
            if (Modifier.isPublic(m.getModifiers())) {
                face.add(m.getName());
            }
        }
        t.due("rule 1: no two calls share a name", face.size(), 56);
        for (Method m : WellVoice.class.getDeclaredMethods()) {
            t.due("rule 1: " + m, face.contains(m.getName()), Modifier.isPublic(m.getModifiers()));
        }
        for (Class<?> c : classes) {
            t.due("rule 1: static " + c, Modifier.isStatic(c.getModifiers()), true);
            t.due("rule 1: open " + c, Modifier.isPublic(c.getModifiers()) || Modifier.isProtected(c.getModifiers()), false);
            for (Method m : c.getDeclaredMethods()) {
                t.due("rule 1: " + m, face.contains(m.getName()), false);
            }
        }
    }

    /** Rules 5 and 11: static fields are constants; some twenty other fields, and seven parameters, at most. */
    private static void members(Class<?> c) {
        int fields = 0;
        for (Field f : c.getDeclaredFields()) {
            if (Modifier.isStatic(f.getModifiers())) {
                t.due("rule 5: " + f, Modifier.isFinal(f.getModifiers()), true);
            } else {
                fields++;
            }
        }
        t.due("rule 11: " + fields + " fields of " + c, fields <= 20, true);
        for (Method m : c.getDeclaredMethods()) {
            t.due("rule 11: parameters of " + m, m.getParameterCount() <= 7, true);
        }
    }
}
