import java.util.ArrayList;
import java.util.List;
import java.util.function.Consumer;
import java.util.function.Supplier;

/**
 * All that can be seen of an object, in a row of answers. Looking changes it, and nothing is promised of it after its
 * 512th call: so each look is at another one, made alike.
 */
final class Seen {
    private final StreetTillTen x;
    private final List<Long> answers;

    private Seen(StreetTillTen x, List<Long> answers) {
        this.x = x;
        this.answers = answers;
    }

    static List<Long> of(Supplier<StreetTillTen> made) {
        List<Long> answers = new ArrayList<>();
        look(made, answers, Seen::street);
        look(made, answers, Seen::sheets);
        for (int sheet = 0; sheet < 4; sheet++) {
            int of = sheet;
            look(made, answers, seen -> seen.items(of));
        }
        look(made, answers, Seen::image);
        look(made, answers, Seen::texts);
        return answers;
    }

    private static void look(Supplier<StreetTillTen> made, List<Long> answers, Consumer<Seen> part) {
        part.accept(new Seen(made.get(), answers));
    }

    private void note(long answer) {
        answers.add(answer);
    }

    private void street() {
        for (int what = 0; what < 6; what++) {
            note(x.count(what));
        }
        note(x.told(0, 1));
        int houses = x.count(0);
        for (int of = 0; of < houses; of++) {
            for (int what = 2; what < 5; what++) {
                note(x.told(of, what));
            }
            for (int other = 0; other < of; other++) {
                note(x.told(of, 10 + other));
                note(x.told(other, 10 + of));
            }
        }
    }

    /** What each SHEET is, and how many items it has. */
    private void sheets() {
        for (int sheet = 0; sheet < 4; sheet++) {
            note(sortOf(sheet));
            note(sizeOf(sheet));
        }
    }

    /** NONE, if it is missing. */
    private int sortOf(int sheet) {
        int sort = 2;
        while (sort >= 0 && x.houses(sheet, sort, 0, 0) != 0) {
            sort--;
        }
        return sort;
    }

    private int sizeOf(int sheet) {
        int size = 0;
        while (size < 41 && x.copy(sheet, size, sheet, size, 1) == 1) {
            size++;
        }
        return size;
    }

    /** The first nine, by the HOUSES that come by them, if there is room for one. */
    private void items(int sheet) {
        if (x.back() < 0) {
            x.image();
        }
        int sort = sortOf(sheet);
        int size = sizeOf(sheet);
        for (int from = 0; from + 1 < size && from < 8; from++) {
            x.back();
            note(x.houses(sheet, sort, from, 1));
            note(x.told(x.count(0) - 1, 4));
            note(x.told(x.count(0) - 1, 2));
        }
    }

    private void image() {
        note(x.back());
        street();
    }

    /** THE TAPE, by what it comes to with this behind it; and what each TEXT tells. */
    private void texts() {
        Due.feed(x, ";sounds 3;");
        note(x.text());
        note(x.count(3));
        note(x.count(4));
        for (int text = 0; text < 6; text++) {
            note(x.force(text));
            note(x.asks(0, 1, 0));
            note(x.asks(0, 1, 1));
            note(x.told(0, 7));
        }
    }
}
