import java.util.List;
import java.util.function.Consumer;
import java.util.function.Supplier;

/** That what the other tests see of an object is all: each thing that a call changes is seen. */
public final class SeenTest {
    public static void main(String[] args) {
        seen("YEAR", x -> x.set(0, 0, 7));
        seen("LIMIT", x -> x.set(1, 0, 20));
        for (int house = 0; house < 5; house++) {
            int of = house;
            seen("NUMBER of " + of, x -> x.set(2, of, 9));
            seen("TABLE of " + of, x -> x.set(3, of, 3));
            for (int other = 0; other < house; other++) {
                int and = other;
                seen("STRENGTH of " + of + " and " + and, x -> x.bind(of, and, 71));
            }
        }
        seen("a HOUSE", x -> x.house(0, 0));
        seen("a FEAST", x -> x.feast());
        seen("a YEAR", x -> x.year());
        seen("a byte", x -> x.feed('1'));
        seen("a blank", x -> x.feed(' '));
        seen("a TEXT", x -> x.text());
        seen("THE RULE", x -> x.force(0));
        seen("AN IMAGE", x -> x.image());
        seen("THE IMAGE", x -> x.back());
        seen("a SHEET that comes", x -> x.sheet(3, 0, 0));
        seen("a SHEET that goes", x -> x.sheet(1, -1, 0));
        seen("a SHEET's sort", x -> Due.sheet(x, 2, 1, 5, 5, 4, 4));
        seen("a SHEET's size", x -> Due.sheet(x, 2, 2, 5, 5, 4, 4, 0));
        for (int item = 0; item < 4; item++) {
            int i = item;
            seen("item " + i + " of a SHEET", x -> x.cell(2, i, 1));
        }
        seen("a SHEET of a HOUSE", x -> x.film(0, 0));
        seen("a byte more or less", Streets::fullTape, x -> x.text());
        alike();
        Due.end();
    }

    private static void seen(String what, Consumer<StreetTillTen> change) {
        seen(what, Streets::busy, change);
    }

    private static void seen(String what, Supplier<StreetTillTen> made, Consumer<StreetTillTen> change) {
        Due.is(what + " is seen", Seen.of(() -> changed(made, change)).equals(Seen.of(made)) ? 1 : 0, 0);
    }

    private static StreetTillTen changed(Supplier<StreetTillTen> made, Consumer<StreetTillTen> change) {
        StreetTillTen x = made.get();
        change.accept(x);
        return x;
    }

    private static void alike() {
        for (Supplier<StreetTillTen> made : List.<Supplier<StreetTillTen>>of(Streets::busy, Streets::full, Streets::fullTape)) {
            Due.is("what was made alike is alike", Seen.of(made).equals(Seen.of(made)) ? 1 : 0, 1);
        }
        Due.is("a full one has no room for a HOUSE", Streets.full().house(0, 0), Due.FULL);
        Due.is("nor for a TEXT", Streets.full().text(), Due.FULL);
        Due.is("nor for a byte", Streets.full().feed(' '), Due.FULL);
        Due.is("nor for a YEAR", Streets.full().year(), Due.STATE);
        Due.is("a full TAPE is a TEXT", Streets.fullTape().text(), 3);
    }
}
