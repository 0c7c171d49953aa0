import java.util.function.Supplier;
import java.util.function.ToLongFunction;

/** Counts answers that are not as due, and ends a test by them. */
final class Due {
    static final int NONE = -1, BAD = -2, STATE = -3, FULL = -4;
    static final int NOTHING = -11, OUTSIDE = -12, UNLIKE = -13, NEGATIVE = -14;
    static final long NO = -4611686018427387904L;

    private static int asked = 0;
    private static int wrong = 0;

    private Due() {
    }

    static void is(String call, long got, long want) {
        asked++;
        if (got != want) {
            wrong++;
            System.out.println(call + " answered " + got + ", due is " + want);
        }
    }

    /** A call on an object so made answers this, and changes nothing that can be seen. */
    static void idle(String call, Supplier<StreetTillTen> made, ToLongFunction<StreetTillTen> on, long want) {
        is(call, on.applyAsLong(made.get()), want);
        is(call + " leaves all as it was", Seen.of(() -> behind(made, on)).equals(Seen.of(made)) ? 1 : 0, 1);
    }

    private static StreetTillTen behind(Supplier<StreetTillTen> made, ToLongFunction<StreetTillTen> on) {
        StreetTillTen x = made.get();
        on.applyAsLong(x);
        return x;
    }

    /** A call on a busy street answers this, and changes nothing that can be seen. */
    static void idle(String call, ToLongFunction<StreetTillTen> on, long want) {
        idle(call, Streets::busy, on, want);
    }

    static void end() {
        System.out.println(asked + " answers, " + wrong + " not as due");
        if (wrong != 0 || asked == 0) {
            System.exit(1);
        }
    }

    /** Feeds a text to an object's TAPE and answers what text() does. */
    static int text(StreetTillTen x, String text) {
        feed(x, text);
        return x.text();
    }

    static void feed(StreetTillTen x, String text) {
        for (int i = 0; i < text.length(); i++) {
            x.feed(text.charAt(i));
        }
    }

    /** HOUSES of KIND 0 and NUMBER 0, as many as there are TABLES given, at them. */
    static StreetTillTen street(int... tables) {
        StreetTillTen x = new StreetTillTen();
        for (int i = 0; i < tables.length; i++) {
            x.house(0, 0);
            x.set(3, i, tables[i]);
        }
        return x;
    }

    /** A SHEET of a sort that holds these. */
    static void sheet(StreetTillTen x, int sheet, int sort, int... items) {
        x.sheet(sheet, sort, items.length);
        for (int i = 0; i < items.length; i++) {
            x.cell(sheet, i, items[i]);
        }
    }
}
