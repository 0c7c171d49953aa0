import java.lang.reflect.Constructor;
import java.lang.reflect.Field;
import java.lang.reflect.Method;
import java.lang.reflect.Modifier;
import java.util.Set;
import java.util.TreeSet;

/** The public face: all that the document names, and nothing beyond it. */
public final class FaceTest {
    private static final String[] METHODS = {
        "int set 3", "int house 2", "int bind 3", "int told 2", "int feed 1", "int text 0", "int force 1", "int asks 3",
        "int feast 0", "int year 0", "int street 1", "int way 2", "int run 2", "int takes 1", "int best 3", "int change 2",
        "int split 2", "int missed 1", "int match 1", "int tells 3", "int film 2", "int drawn 2", "long chance 4",
        "int image 0", "int back 0", "int count 1", "int sheet 3", "int cell 3", "int copy 5", "int houses 4", "int taken 2",
    };

    public static void main(String[] args) {
        constants();
        methods();
        othersArePrivate();
        farNumbers();
        Due.end();
    }

    private static void constants() {
        Due.is("NONE", StreetTillTen.NONE, -1);
        Due.is("BAD", StreetTillTen.BAD, -2);
        Due.is("STATE", StreetTillTen.STATE, -3);
        Due.is("FULL", StreetTillTen.FULL, -4);
        Due.is("NO", StreetTillTen.NO, -4611686018427387904L);
    }

    private static void methods() {
        Set<String> due = new TreeSet<>(Set.of(METHODS));
        Set<String> got = new TreeSet<>();
        for (Method m : StreetTillTen.class.getDeclaredMethods()) {
            if (Modifier.isPublic(m.getModifiers())) {
                got.add(m.getReturnType() + " " + m.getName() + " " + m.getParameterCount());
                for (Class<?> type : m.getParameterTypes()) {
                    Due.is(m.getName() + " takes ints", type == int.class ? 1 : 0, 1);
                }
            }
        }
        Due.is("the methods are " + got, got.equals(due) ? 1 : 0, 1);
        Constructor<?>[] constructors = StreetTillTen.class.getDeclaredConstructors();
        Due.is("constructors", constructors.length, 1);
        Due.is("the constructor is public", Modifier.isPublic(constructors[0].getModifiers()) ? 1 : 0, 1);
        Due.is("the constructor's parameters", constructors[0].getParameterCount(), 0);
        Due.is("final", Modifier.isFinal(StreetTillTen.class.getModifiers()) ? 1 : 0, 1);
    }

    private static void othersArePrivate() {
        Set<String> constants = Set.of("NONE", "BAD", "STATE", "FULL", "NO");
        for (Field f : StreetTillTen.class.getDeclaredFields()) {
            boolean is = constants.contains(f.getName()) ? Modifier.isPublic(f.getModifiers()) : Modifier.isPrivate(f.getModifiers());
            Due.is("field " + f.getName(), is ? 1 : 0, 1);
        }
        for (Method m : StreetTillTen.class.getDeclaredMethods()) {
            boolean is = Modifier.isPublic(m.getModifiers()) || Modifier.isPrivate(m.getModifiers());
            Due.is("method " + m.getName(), is ? 1 : 0, 1);
        }
    }

    /** No call throws, whatever numbers it is given, in a few states. */
    private static void farNumbers() {
        int[] far = {Integer.MIN_VALUE, -15, -2, -1, 0, 1, 2, 7, 8, 20, 39, 40, 41, 160, 999, Integer.MAX_VALUE - 1, Integer.MAX_VALUE};
        for (int state = 0; state < 3; state++) {
            int at = 0;
            for (Method m : StreetTillTen.class.getDeclaredMethods()) {
                if (!Modifier.isPublic(m.getModifiers())) {
                    continue;
                }
                for (int i = 0; i < 400; i++) {
                    Object[] values = new Object[m.getParameterCount()];
                    for (int k = 0; k < values.length; k++) {
                        at = at * 31 + 7;
                        values[k] = far[Math.floorMod(at >>> 4, far.length)];
                    }
                    callOnce(state, m, values);
                }
            }
        }
    }

    private static void callOnce(int state, Method m, Object[] values) {
        StreetTillTen x = state == 0 ? new StreetTillTen() : Due.street(0, 1, 0, 1, 2, -1, 3, 3);
        if (state == 2) {
            Due.sheet(x, 0, 0, 1, 2, 3, 4, 5, 6, 7, 8);
            x.sheet(1, 1, 40);
            x.image();
            x.set(0, 0, 999);
        }
        try {
            m.invoke(x, values);
        } catch (ReflectiveOperationException e) {
            Due.is(m.getName() + java.util.Arrays.toString(values) + " threw " + e.getCause(), 1, 0);
        }
    }
}
