/** Promises 28 to 32: sheet, cell, copy, houses, taken. */
public final class HostTest {
    public static void main(String[] args) {
        sheet();
        cell();
        cellOfSorts();
        copy();
        copyBad();
        houses();
        housesBad();
        housesWhenFull();
        taken();
        Due.end();
    }

    /** Whether a SHEET holds these (0 .. 9; NONE: another number). */
    private static void holds(String what, StreetTillTen x, int sheet, int... items) {
        for (int i = 0; i < items.length; i++) {
            Due.is(what + ", item " + i, itemOf(x, sheet, i), items[i]);
        }
    }

    /** No call answers an item, but one that is copied to SHEET 3 can come as a HOUSE's NUMBER. */
    private static int itemOf(StreetTillTen x, int sheet, int i) {
        int sort = sortOf(x, sheet);
        x.image();
        x.sheet(3, sort, 2);
        x.copy(sheet, i, 3, 1, 1);
        int came = x.houses(3, sort, 0, 1);
        int number = came == 1 ? x.told(x.count(0) - 1, 2) : Due.NONE;
        x.back();
        return number;
    }

    private static int sortOf(StreetTillTen x, int sheet) {
        for (int sort = 0; sort < 3; sort++) {
            if (x.houses(sheet, sort, 0, 0) == 0) {
                return sort;
            }
        }
        return Due.NONE;
    }

    private static void sheet() {
        StreetTillTen x = new StreetTillTen();
        for (int sort = 0; sort < 3; sort++) {
            Due.is("28: sort " + sort, x.sheet(sort, sort, 2 * sort), 1);
            Due.is("28: is of sort " + sort, sortOf(x, sort), sort);
            Due.is("28: has no more items", x.cell(sort, 2 * sort, 0), Due.OUTSIDE);
        }
        Due.is("28: 40", x.sheet(3, 0, 40), 1);
        Due.is("28: item 39", x.cell(3, 39, 5), 1);
        Due.is("28: 41", x.sheet(3, 0, 41), Due.BAD);
        Due.is("28: -1", x.sheet(3, 0, -1), Due.NEGATIVE);
        Due.is("28: -1 of no sort", x.sheet(3, 3, -1), Due.BAD);
        Due.is("28: -1 of no SHEET", x.sheet(4, 0, -1), Due.BAD);
        Due.is("28: sort -2", x.sheet(3, -2, 1), Due.BAD);
        Due.is("28: SHEET -1", x.sheet(-1, 0, 1), Due.BAD);
        Due.is("28: SHEET 4 missing", x.sheet(4, -1, 1), Due.BAD);
        Due.is("28: refusals change nothing", x.cell(3, 39, 5), 1);
        Due.is("28: missing, n 99", x.sheet(3, -1, 99), 1);
        Due.is("28: is missing", x.cell(3, 0, 5), Due.NOTHING);
        Due.is("28: missing, n -9", x.sheet(3, -1, -9), 1);
        x.sheet(0, 0, 2);
        x.cell(0, 0, 9);
        x.cell(0, 1, 9);
        x.sheet(0, 0, 2);
        holds("28: all 0", x, 0, 0, 0);
    }

    private static void cell() {
        StreetTillTen x = new StreetTillTen();
        x.sheet(1, 2, 3);
        Due.is("29: first", x.cell(1, 0, 4), 1);
        Due.is("29: last", x.cell(1, 2, 6), 1);
        holds("29: items", x, 1, 4, 0, 6);
        Due.is("29: -1", x.cell(1, -1, 0), Due.OUTSIDE);
        Due.is("29: 3", x.cell(1, 3, 0), Due.OUTSIDE);
        Due.is("29: far", x.cell(1, Integer.MAX_VALUE, 0), Due.OUTSIDE);
        Due.is("29: far below", x.cell(1, Integer.MIN_VALUE, 0), Due.OUTSIDE);
        Due.is("29: nothing ahead of outside", x.cell(2, -1, 0), Due.NOTHING);
        Due.is("29: SHEET -1", x.cell(-1, 0, 0), Due.BAD);
        Due.is("29: SHEET 4", x.cell(4, 0, 0), Due.BAD);
        holds("29: items as they were", x, 1, 4, 0, 6);
    }

    private static void cellOfSorts() {
        StreetTillTen x = new StreetTillTen();
        int[] values = {261, 65541, -251, -65531, 5};
        int[][] due = {{5, 5, 5, 5, 5}, {-1, 5, -1, 5, 5}, {-1, -1, -1, -1, 5}};
        for (int sort = 0; sort < 3; sort++) {
            Due.sheet(x, 0, sort, values);
            holds("29: of sort " + sort, x, 0, due[sort]);
        }
    }

    private static void copy() {
        StreetTillTen x = new StreetTillTen();
        Due.sheet(x, 0, 1, 1, 2, 3, 4, 5);
        Due.sheet(x, 1, 1, 9, 9, 9);
        Due.is("30: two", x.copy(0, 3, 1, 1, 2), 2);
        holds("30: they came", x, 1, 9, 4, 5);
        holds("30: they stay", x, 0, 1, 2, 3, 4, 5);
        Due.is("30: up, within one", x.copy(0, 0, 0, 1, 4), 4);
        holds("30: as they were", x, 0, 1, 1, 2, 3, 4);
        Due.is("30: down, within one", x.copy(0, 2, 0, 0, 3), 3);
        holds("30: as they were, down", x, 0, 2, 3, 4, 3, 4);
        Due.is("30: none", x.copy(0, 5, 1, 3, 0), 0);
        holds("30: nothing came", x, 1, 9, 4, 5);
    }

    private static void copyBad() {
        StreetTillTen x = new StreetTillTen();
        Due.sheet(x, 0, 1, 1, 2, 3);
        Due.sheet(x, 1, 1, 7, 8);
        Due.sheet(x, 2, 2, 5, 6);
        Due.is("30: SHEET -1", x.copy(-1, 0, 0, 0, 1), Due.BAD);
        Due.is("30: SHEET 4", x.copy(4, 0, 0, 0, 1), Due.BAD);
        Due.is("30: to -1", x.copy(0, 0, -1, 0, 1), Due.BAD);
        Due.is("30: to 4", x.copy(3, 0, 4, 0, 1), Due.BAD);
        Due.is("30: from nothing", x.copy(3, 0, 0, 0, 1), Due.NOTHING);
        Due.is("30: to nothing", x.copy(2, 9, 3, 0, -1), Due.NOTHING);
        Due.is("30: unlike sorts ahead of outside", x.copy(0, 9, 2, 0, 1), Due.UNLIKE);
        int[][] outside = {
            {0, 0, -1}, {-1, 0, 1}, {0, -1, 1}, {0, 0, 3}, {2, 0, 2}, {0, 1, 2}, {4, 0, 0}, {0, 3, 0}, {-1, 0, 0}, {0, -1, 0},
            {Integer.MAX_VALUE, 0, 1}, {0, Integer.MAX_VALUE, 1}, {1, 1, Integer.MAX_VALUE}, {0, 0, Integer.MIN_VALUE},
            {Integer.MIN_VALUE, 0, Integer.MIN_VALUE}, {Integer.MAX_VALUE, Integer.MAX_VALUE, Integer.MAX_VALUE},
        };
        for (int[] o : outside) {
            Due.is("30: copy(0, " + o[0] + ", 1, " + o[1] + ", " + o[2] + ")", x.copy(0, o[0], 1, o[1], o[2]), Due.OUTSIDE);
        }
        holds("30: nothing came", x, 1, 7, 8);
    }

    private static void houses() {
        StreetTillTen x = new StreetTillTen();
        Due.sheet(x, 0, 0, 7, 3, 9, 1, 4, 6, 0, 2, 10, 5, 0);
        Due.is("31: none", x.houses(0, 0, 0, 0), 0);
        Due.is("31: from 1, five, two left out", x.houses(0, 0, 1, 5), 3);
        Due.is("31: they came", x.count(0), 3);
        Due.is("31: KIND of 0", x.told(0, 4), 3);
        Due.is("31: NUMBER of 0", x.told(0, 2), 9);
        Due.is("31: KIND of 1", x.told(1, 4), 1);
        Due.is("31: NUMBER of 1", x.told(1, 2), 4);
        Due.is("31: KIND of 2", x.told(2, 4), 5);
        Due.is("31: TABLE of 2", x.told(2, 3), Due.NONE);
        Due.is("31: half a two is outside", x.houses(0, 0, 10, 1), Due.OUTSIDE);
        Due.is("31: it did not come", x.count(0), 3);
        Due.is("31: what stood ahead came, and -12", x.houses(0, 0, 3, 8), Due.OUTSIDE);
        Due.is("31: two more", x.count(0), 5);
    }

    private static void housesBad() {
        StreetTillTen x = new StreetTillTen();
        Due.sheet(x, 0, 2, 0, 1, 0, 2);
        int[][] bad = {{-1, 2, 0, 1}, {4, 2, 0, 1}, {0, -1, 0, 1}, {0, 3, 0, 1}, {0, 2, 0, -1}, {0, 2, 0, 9}, {0, 0, 0, 9}, {1, 3, 0, 1}};
        for (int[] b : bad) {
            Due.is("31: houses(" + b[0] + ", " + b[1] + ", " + b[2] + ", " + b[3] + ")", x.houses(b[0], b[1], b[2], b[3]), Due.BAD);
        }
        Due.is("31: another sort", x.houses(0, 1, 0, 1), Due.UNLIKE);
        Due.is("31: another sort ahead of outside", x.houses(0, 0, 99, 1), Due.UNLIKE);
        Due.is("31: nothing, of any sort", x.houses(1, 0, 99, 1), Due.NOTHING);
        for (int from : new int[] {-1, 3, 4, 99, Integer.MAX_VALUE, Integer.MAX_VALUE - 1, Integer.MIN_VALUE}) {
            Due.is("31: from " + from, x.houses(0, 2, from, 8), Due.OUTSIDE);
        }
        Due.is("31: nobody came", x.count(0), 0);
    }

    private static void housesWhenFull() {
        StreetTillTen x = new StreetTillTen();
        x.sheet(0, 1, 16);
        Due.is("31: seven", x.houses(0, 1, 0, 7), 7);
        Due.is("31: then one, others are left out", x.houses(0, 1, 0, 8), 1);
        Due.is("31: then none", x.houses(0, 1, 0, 8), 0);
        Due.is("31: full", x.count(0), 8);
        Due.is("31: full, and outside", x.houses(0, 1, 2, 8), Due.OUTSIDE);
    }

    private static void taken() {
        StreetTillTen x = new StreetTillTen();
        int[] under = {1, 3, 5, 11, 21, 33};
        for (int kind = 0; kind < 6; kind++) {
            x.house(kind, kind + 3);
        }
        for (int kind = 0; kind < 6; kind++) {
            for (int k = 0; k < 6; k++) {
                boolean is = (under[kind] >> k & 1) == 1;
                Due.is("32: KIND " + kind + " taken for " + k, x.taken(kind, k), is ? kind + 3 : Due.UNLIKE);
            }
        }
        Due.is("32: k -1", x.taken(0, -1), Due.BAD);
        Due.is("32: k 6", x.taken(0, 6), Due.BAD);
        Due.is("32: k 6 of no HOUSE", x.taken(6, 6), Due.BAD);
        Due.is("32: HOUSE 6", x.taken(6, 0), Due.NOTHING);
        Due.is("32: HOUSE -1", x.taken(-1, 0), Due.NOTHING);
    }
}
