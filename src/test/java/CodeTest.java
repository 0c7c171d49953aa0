import java.io.IOException;
import java.util.ArrayList;
import java.util.HashMap;
import java.util.List;
import java.util.Map;
import java.util.Set;
import java.util.TreeSet;

/** Those rules of LANGUAGE.md that can be seen from the compiled class: what it calls, how deep, what it makes. */
public final class CodeTest {
    private static final int DEEPEST = 8;
    private static final int THROW = 191, DYNAMIC = ClassFile.INVOKE_DYNAMIC, CAST = 192, INSTANCE_OF = 193, ENTER = 194, EXIT = 195;
    private static final int NEW = 187, NEW_ARRAY = 188, NEW_OBJECTS = 189, NEW_ROWS = 197;
    private static final String[] LIBRARY = {
        "Object\\.<init>.*", "String\\.(length|charAt|isEmpty|equals|substring|toCharArray)\\(.*", "String\\.indexOf\\(I\\)I",
        "String\\.<init>\\(\\[C\\)V", "(Integer|Long|Math)\\.\\w+(?<!Exact)\\([IJ]*\\)[IJ]", "System\\.arraycopy\\(.*",
    };

    private final Map<String, ClassFile.Method> methods = new HashMap<>();
    private final List<ClassFile> files = new ArrayList<>();
    private final Set<String> recursive = new TreeSet<>();

    public static void main(String[] args) throws IOException {
        CodeTest test = new CodeTest();
        test.read(StreetTillTen.class);
        for (Class<?> inside : StreetTillTen.class.getDeclaredClasses()) {
            test.read(inside);
        }
        test.types();
        test.codes();
        test.library();
        test.depth();
        test.recursion();
        test.rooms();
        Due.end();
    }

    private void read(Class<?> of) throws IOException {
        ClassFile file = new ClassFile(of);
        files.add(file);
        for (ClassFile.Method m : file.methods) {
            methods.put(m.name, m);
        }
    }

    private void types() {
        String numbers = "\\[{0,2}[IJSBCZ]|\\[{0,1}LStreetTillTen(\\$\\w+)?;|Ljava/lang/String;";
        for (ClassFile file : files) {
            for (String descriptor : file.descriptors) {
                boolean is = descriptor.matches("(\\((" + numbers + ")*\\))?(" + numbers + "|V)");
                Due.is("rule 3: " + file.name + " " + descriptor, is ? 1 : 0, 1);
            }
        }
    }

    private void codes() {
        for (ClassFile.Method m : methods.values()) {
            Due.is("rule 6: " + m.name + " catches", m.caught, 0);
            for (int code : new int[] {THROW, ENTER, EXIT}) {
                Due.is("rule 6: " + m.name + " has no " + code, m.codes.contains(code) ? 1 : 0, 0);
            }
            Due.is("rule 2: " + m.name + " makes no lambda and joins no texts", m.codes.contains(DYNAMIC) ? 1 : 0, 0);
            for (int code : new int[] {CAST, INSTANCE_OF}) {
                Due.is("rule 6: " + m.name + " needs no cast", m.codes.contains(code) ? 1 : 0, 0);
            }
        }
    }

    private void library() {
        String all = "java/lang/(" + String.join("|", LIBRARY) + ")";
        for (ClassFile.Method m : methods.values()) {
            for (String called : m.calls) {
                Due.is("rule 4: " + m.name + " calls " + called, methods.containsKey(called) || called.matches(all) ? 1 : 0, 1);
            }
        }
    }

    private void depth() {
        for (String name : methods.keySet()) {
            Due.is("rule 11: " + name + " calls at most eight deep", depth(name, new ArrayList<>()) <= DEEPEST ? 1 : 0, 1);
        }
    }

    /** How many stand open at once, those of a recursion counted once each; a call of the library is one, too. */
    private int depth(String name, List<String> open) {
        if (open.contains(name)) {
            recursive.addAll(open.subList(open.indexOf(name), open.size()));
            return 0;
        }
        if (!methods.containsKey(name)) {
            return 1;
        }
        open.add(name);
        int deepest = 0;
        for (String called : methods.get(name).calls) {
            deepest = Math.max(deepest, depth(called, open));
        }
        open.remove(name);
        return 1 + deepest;
    }

    /** None but the two that read what is open; these carry how much is. */
    private void recursion() {
        Set<String> due = Set.of("StreetTillTen$Reader.read(II)V", "StreetTillTen$Reader.readOne(I)V");
        Due.is("rule 8: those that call one another are " + recursive, recursive.equals(due) ? 1 : 0, 1);
    }

    private void rooms() {
        for (ClassFile.Method m : methods.values()) {
            boolean mayMake = m.name.contains(".<init>") || m.name.contains(".<clinit>");
            for (int code : new int[] {NEW, NEW_ARRAY, NEW_OBJECTS, NEW_ROWS}) {
                Due.is("rule 12: " + m.name + " makes nothing", !mayMake && m.codes.contains(code) ? 1 : 0, 0);
            }
        }
        Due.is("the methods are found", methods.size() > 90 ? 1 : 0, 1);
    }
}
