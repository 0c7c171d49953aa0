import java.io.IOException;
import java.lang.reflect.Field;
import java.lang.reflect.Method;
import java.lang.reflect.Modifier;
import java.nio.file.Files;
import java.nio.file.Path;
import java.util.HashSet;
import java.util.Set;
import java.util.regex.Matcher;
import java.util.regex.Pattern;

/** Those rules of LANGUAGE.md that can be seen from the source or from the class itself. */
public final class LanguageTest {
    private static final Path SOURCE = Path.of("src/main/java/StreetTillTen.java");
    private static final String[] NEVER = {
        "\\bthrow\\b", "\\btry\\b", "\\bcatch\\b", "\\bsynchronized\\b", "\\bassert\\b", "\\bpackage\\b", "\\bimport\\b", "->", "::",
        "\\binstanceof\\b", "\\bprotected\\b", "\\bfloat\\b", "\\bdouble\\b", "\\bObject\\b", "\\bSystem\\.(?!arraycopy\\b)",
        "Exact\\b", "\\bthis\\s*\\(", "\\bwhile\\s*\\(\\s*true", "\\bfor\\s*\\(\\s*;", "@",
    };

    public static void main(String[] args) throws IOException {
        String source = Files.readString(SOURCE);
        plainSigns(source);
        String code = withoutTexts(source);
        neverThere(code);
        shortMethods(code);
        classes();
        Due.end();
    }

    private static void plainSigns(String source) {
        Due.is("signs above 127", source.chars().filter(c -> c > 127).count(), 0);
    }

    private static String withoutTexts(String source) {
        return source.replaceAll("(?s)/\\*.*?\\*/", "").replaceAll("//[^\n]*", "")
                .replaceAll("\"[^\"\n]*\"", "\"\"").replaceAll("'(\\\\.|[^\\\\])'", "' '");
    }

    private static void neverThere(String code) {
        for (String never : NEVER) {
            Matcher m = Pattern.compile(never).matcher(code);
            Due.is("rules 6, 4, 2: " + never, m.find() ? 1 : 0, 0);
        }
    }

    private static void shortMethods(String code) {
        Pattern head = Pattern.compile("(?m)^( +)(?:public |private |static )*[\\w\\[\\]]+ \\w+\\(([^)]*)\\) \\{$");
        Matcher m = head.matcher(code);
        int methods = 0;
        while (m.find()) {
            methods++;
            int end = code.indexOf("\n" + m.group(1) + "}", m.end());
            long lines = code.substring(m.start(), end).lines().count();
            Due.is("rule 11: " + m.group().trim() + " is short", lines <= 60 ? 1 : 0, 1);
            long parameters = m.group(2).isBlank() ? 0 : m.group(2).chars().filter(c -> c == ',').count() + 1;
            Due.is("rule 11: " + m.group().trim() + " takes few", parameters <= 7 ? 1 : 0, 1);
        }
        Due.is("methods are found", methods > 31 ? 1 : 0, 1);
    }

    private static void classes() {
        Set<String> face = new HashSet<>();
        for (Method m : StreetTillTen.class.getDeclaredMethods()) {
            if (Modifier.isPublic(m.getModifiers())) {
                face.add(m.getName());
            }
        }
        Class<?>[] inside = StreetTillTen.class.getDeclaredClasses();
        Due.is("rule 11: classes", inside.length <= 11 ? 1 : 0, 1);
        oneClass(StreetTillTen.class, Set.of());
        for (Class<?> c : inside) {
            Due.is("rule 2: " + c + " is static", Modifier.isStatic(c.getModifiers()) ? 1 : 0, 1);
            Due.is("rule 1: " + c + " is not public", Modifier.isPublic(c.getModifiers()) ? 1 : 0, 0);
            oneClass(c, face);
        }
    }

    private static void oneClass(Class<?> c, Set<String> face) {
        int fields = 0;
        for (Field f : c.getDeclaredFields()) {
            if (!Modifier.isStatic(f.getModifiers())) {
                fields++;
            } else {
                Due.is("rule 5: " + f + " is final", Modifier.isFinal(f.getModifiers()) ? 1 : 0, 1);
            }
        }
        Due.is("rule 11: fields of " + c, fields <= 20 ? 1 : 0, 1);
        Set<String> publics = new HashSet<>(face);
        for (Method m : c.getDeclaredMethods()) {
            if (Modifier.isPublic(m.getModifiers())) {
                publics.add(m.getName());
            }
        }
        for (Method m : c.getDeclaredMethods()) {
            boolean is = Modifier.isPublic(m.getModifiers()) || !publics.contains(m.getName());
            Due.is("rule 1: " + m + " has a name of its own", is ? 1 : 0, 1);
        }
    }
}
