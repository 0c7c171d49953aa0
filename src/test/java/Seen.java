import java.util.ArrayList;
import java.util.List;

/** All that can be seen of an object, in a row of answers. The object is used up by it: it is no longer as it was. */
final class Seen {
    private final StreetTillTen x;
    private final List<Long> answers = new ArrayList<>();

    private Seen(StreetTillTen x) {
        this.x = x;
    }

    static List<Long> of(StreetTillTen x) {
        Seen seen = new Seen(x);
        seen.street();
        seen.sheets();
        int kept = x.back();
        seen.note(kept);
        seen.street();
        seen.items(kept);
        // Last, as it may lay another rule, and as a TEXT that is read can't be taken back.
        seen.texts();
        return seen.answers;
    }

    private void note(long answer) {
        answers.add(answer);
    }

    private void street() {
        for (int what = 0; what < 6; what++) {
            note(x.count(what));
        }
        note(x.told(0, 1));
        for (int of = 0; of < x.count(0); of++) {
            for (int what = 2; what < 5; what++) {
                note(x.told(of, what));
            }
            for (int other = 0; other < of; other++) {
                note(x.told(of, 10 + other));
                note(x.told(other, 10 + of));
            }
        }
    }

    /** What each SHEET is, and how many items it has. */
    private void sheets() {
        for (int sheet = 0; sheet < 4; sheet++) {
            for (int sort = 0; sort < 3; sort++) {
                note(x.houses(sheet, sort, 0, 0));
            }
            note(sizeOf(sheet));
        }
    }

    private int sizeOf(int sheet) {
        int size = 0;
        while (size < 41 && x.copy(sheet, size, sheet, size, 1) == 1) {
            size++;
        }
        return size;
    }

    /** Items are seen by the HOUSES that come by them, if there is room for one. */
    private void items(int kept) {
        if (kept < 0) {
            x.image();
        }
        for (int sheet = 0; sheet < 4; sheet++) {
            int size = sizeOf(sheet);
            for (int sort = 0; sort < 3; sort++) {
                for (int from = 0; from + 1 < size && from < 8; from++) {
                    x.back();
                    note(x.houses(sheet, sort, from, 1));
                    note(x.told(x.count(0) - 1, 4));
                    note(x.told(x.count(0) - 1, 2));
                }
            }
        }
        x.back();
    }

    /** THE TAPE, by what it comes to with this behind it; and what each TEXT tells. */
    private void texts() {
        Due.feed(x, ";sounds 3;");
        note(x.text());
        note(x.count(3));
        note(x.count(4));
        for (int text = 0; text < 6; text++) {
            note(x.force(text));
            note(x.asks(0, 1, 0));
            note(x.asks(0, 1, 1));
            note(x.told(0, 7));
        }
    }
}
