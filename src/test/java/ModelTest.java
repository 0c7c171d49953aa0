import java.lang.reflect.Method;
import java.util.ArrayList;
import java.util.Arrays;
import java.util.List;

/** Runs of calls, drawn by a seed, on the class and on the Model: both answer alike. */
public final class ModelTest {
    private static final int RUNS = 1500, CALLS = 512;
    private static final String[] WORDS = {
        "strength", "number", "other", "seats", "year", "apart", "meets", "fades", "sounds", "or", "and", "not",
        "(", ")", ";", "+", "-", "*", "<", "=", "7", "30", "9999", "12345", "yea", "A", "\t", "0", "1", "2",
    };

    private long state;
    private final int run;
    private final StreetTillTen real = new StreetTillTen();
    private final Model model = new Model();
    private final List<String> calls = new ArrayList<>();
    private boolean isWrong = false;

    private ModelTest(int run) {
        this.run = run;
        this.state = run * 7919L + 17;
    }

    public static void main(String[] args) throws ReflectiveOperationException {
        int runs = args.length > 0 ? Integer.parseInt(args[0]) : RUNS;
        int wrong = 0;
        for (int run = 0; run < runs && wrong < 5; run++) {
            ModelTest test = new ModelTest(run);
            test.go();
            if (test.isWrong) {
                wrong++;
            }
        }
        System.out.println(runs + " runs, " + wrong + " not as due");
        if (wrong != 0) {
            System.exit(1);
        }
    }

    private int draw(int below) {
        state = state * 6364136223846793005L + 1442695040888963407L;
        return (int) ((state >>> 33) % below);
    }

    /** Mostly from .. to, sometimes what stands about that, seldom anything. */
    private int number(int from, int to) {
        int way = draw(40);
        if (way == 0) {
            return from - 1;
        } else if (way == 1) {
            return to + 1;
        } else if (way == 2) {
            int[] far = {Integer.MIN_VALUE, Integer.MAX_VALUE, Integer.MAX_VALUE - 1, -1, 0, 100, -77};
            return far[draw(far.length)];
        }
        return from + draw(to - from + 1);
    }

    /** What is drawn beyond the last call is left out: nothing is promised of it. */
    private void call(String name, int... args) throws ReflectiveOperationException {
        if (calls.size() >= CALLS) {
            return;
        }
        Class<?>[] types = new Class<?>[args.length];
        Object[] values = new Object[args.length];
        for (int i = 0; i < args.length; i++) {
            types[i] = int.class;
            values[i] = args[i];
        }
        Method one = StreetTillTen.class.getMethod(name, types);
        Method other = Model.class.getDeclaredMethod(name, types);
        long got = ((Number) one.invoke(real, values)).longValue();
        long due = ((Number) other.invoke(model, values)).longValue();
        calls.add(name + Arrays.toString(args) + " " + got);
        if (got != due && !isWrong) {
            isWrong = true;
            System.out.println("run " + run + ", call " + calls.size() + ": " + name + Arrays.toString(args)
                    + " answered " + got + ", due is " + due);
            for (String c : calls) {
                System.out.println("    " + c);
            }
        }
    }

    private int houseDrawn() {
        int most = Math.max(1, model.count(0));
        return number(0, most - 1);
    }

    private void go() throws ReflectiveOperationException {
        if (draw(3) > 0) {
            int houses = draw(9);
            for (int i = 0; i < houses; i++) {
                call("house", draw(6), draw(10));
                call("set", 3, i, draw(8) == 0 ? -1 : draw(2 + draw(3)));
            }
            for (int i = 0; i < 2 * houses; i++) {
                call("bind", draw(8), draw(8), draw(2) == 0 ? 15 + draw(10) : draw(100));
            }
        }
        while (calls.size() < CALLS && !isWrong) {
            one(draw(64));
        }
    }

    private void one(int which) throws ReflectiveOperationException {
        switch (which) {
            case 0: case 1: call("house", number(0, 5), number(0, 9)); break;
            case 2: call("set", 0, number(0, 7), draw(4) == 0 ? number(990, 999) : number(0, 999)); break;
            case 3: call("set", 1, number(0, 7), draw(2) == 0 ? number(10, 30) : number(1, 99)); break;
            case 4: call("set", 2, houseDrawn(), number(0, 9)); break;
            case 5: case 6: case 7: call("set", 3, houseDrawn(), number(-1, 3)); break;
            case 8: call("set", number(0, 3), houseDrawn(), number(0, 3)); break;
            case 9: case 10: case 11: call("bind", houseDrawn(), houseDrawn(), number(0, 99)); break;
            case 12: case 13: call("told", houseDrawn(), number(0, 17)); break;
            case 14: case 15: call("text"); break;
            case 16: text(); break;
            case 17: case 18: call("force", number(0, Math.max(0, model.count(3) - 1))); break;
            case 19: case 20: call("asks", houseDrawn(), houseDrawn(), number(0, 1)); break;
            case 21: case 22: call("feast"); break;
            case 23: case 24: call("year"); break;
            case 25: case 26: call("street", number(0, 5)); break;
            case 27: call("way", houseDrawn(), houseDrawn()); break;
            case 28: case 29: call("run", number(0, 20), number(0, 4)); break;
            case 30: call("takes", number(0, draw(2) == 0 ? 28 : 8)); break;
            case 31: case 32: call("best", houseDrawn(), number(0, 20), number(0, 1)); break;
            case 33: case 34: call("change", number(0, 20), number(0, 1)); break;
            case 35: call("split", draw(5) == 0 ? number(0, 2) : 3, number(0, 1)); break;
            case 36: call("missed", number(0, 1)); break;
            case 37: call("match", number(0, 1)); break;
            case 38: case 39: case 40: call("tells", number(0, 3), houseDrawn(), number(0, 6)); break;
            case 41: case 42: toldOf(); break;
            case 43: call("film", number(0, 3), houseDrawn()); break;
            case 44: call("drawn", number(-1000, 1000), number(0, 20)); break;
            case 45: call("chance", number(-1000, 1000), number(1, 20), number(0, 8), number(0, 1)); break;
            case 46: call("image"); break;
            case 47: if (draw(3) == 0) { call("back"); } break;
            case 48: call("count", number(0, 5)); break;
            case 49: case 50: call("sheet", number(0, 3), number(-1, 2), draw(2) == 0 ? number(0, 40) : model.count(0)); break;
            case 51: case 52: case 53: call("cell", number(0, 3), number(0, 9), draw(4) == 0 ? number(-70000, 70000) : number(0, 40)); break;
            case 54: case 55: call("copy", number(0, 3), number(0, 9), number(0, 3), number(0, 9), number(0, 9)); break;
            case 56: case 57: call("houses", number(0, 3), number(0, 2), number(0, 9), number(0, 8)); break;
            case 58: case 59: call("taken", houseDrawn(), number(0, 5)); break;
            case 60: all(); break;
            default: call("feed", number(0, 255)); break;
        }
    }

    /** All that can be asked of the street, so that what changed is seen. */
    private void all() throws ReflectiveOperationException {
        for (int of = 0; of < model.count(0); of++) {
            for (int what = 2; what < 8; what++) {
                call("told", of, what);
            }
        }
        for (int what = 0; what < 6; what++) {
            call("count", what);
            call("street", what);
        }
    }

    /** What a film tells, a little changed perhaps. */
    private void toldOf() throws ReflectiveOperationException {
        int house = houseDrawn();
        int sheet = draw(4);
        call("film", sheet, house);
        if (draw(2) == 0) {
            call("cell", sheet, draw(8), draw(40));
        }
        if (draw(3) == 0) {
            call("set", 2 + draw(2), houseDrawn(), draw(4));
        }
        for (int what = 0; what < 7; what++) {
            call("tells", sheet, house, what);
        }
    }

    private void text() throws ReflectiveOperationException {
        String text = "meets " + expression(3) + ";fades " + expression(2) + ";sounds " + expression(2) + ";";
        if (draw(3) == 0) {
            int at = draw(text.length());
            text = text.substring(0, at) + WORDS[draw(WORDS.length)] + text.substring(at + draw(2));
        }
        if (draw(12) == 0) {
            text = text.substring(0, draw(text.length()));
        }
        for (int i = 0; i < text.length(); i++) {
            call("feed", text.charAt(i));
        }
        call("text");
        call("force", Math.max(0, model.count(3) - 1));
    }

    private String expression(int depth) {
        String[] gaps = {"", " ", "\n", "  "};
        String gap = gaps[draw(4)];
        int way = depth <= 0 ? draw(2) : draw(9);
        switch (way) {
            case 0: return WORDS[draw(6)];
            case 1: return "" + draw(draw(2) == 0 ? 10 : 70);
            case 2: return "(" + gap + expression(depth - 1) + ")";
            case 3: return "-" + gap + expression(depth - 1);
            case 4: return "(not " + expression(depth - 1) + gap + ")";
            default: break;
        }
        String[] signs = {"+", "-", "*", "<", "=", " or ", " and ", "+", "*"};
        return expression(depth - 1) + gap + signs[draw(9)] + gap + expression(depth - 1);
    }
}
