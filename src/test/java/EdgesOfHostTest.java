/** Promises 28 to 32, sentence by sentence: SHEETS that are missing, empty and full, places, sorts, the order of refusals. */
public final class EdgesOfHostTest {
    private static final int LEAST = Integer.MIN_VALUE, MOST = Integer.MAX_VALUE;

    public static void main(String[] args) {
        sheetBad();
        sheetSizes();
        sheetNegative();
        sheetMissing();
        sheetAllZero();
        sheetOfItsOwn();
        cellBad();
        cellPlaces();
        cellInOrder();
        cellWraps();
        copyBad();
        copyInOrder();
        copyPlaces();
        copyOfNone();
        copyAsTheyWere();
        copyOfAll();
        copyWraps();
        housesBad();
        housesInOrder();
        housesMany();
        housesPlaces();
        housesLeftOut();
        housesWhatStoodAhead();
        housesFull();
        takenBad();
        takenOfKinds();
        takenNumbers();
        Due.end();
    }

    private static final int[] NO_SHEETS = {-1, 4, 5, 256, LEAST, MOST};

    /** Whether an item is v: it comes as a HOUSE's KIND (from 0 to 5) and as its NUMBER (from 0 to 9). */
    private static void item(String what, StreetTillTen x, int sheet, int sort, int i, int v) {
        StreetTillTen street = x;
        street.image();
        street.sheet(3, sort, 2);
        street.copy(sheet, i, 3, 1, 1);
        boolean can = v >= 0 && v <= 9;
        Due.is(what + ", item " + i + " comes", street.houses(3, sort, 0, 1), can ? 1 : 0);
        Due.is(what + ", item " + i, street.told(street.count(0) - 1, 2), can ? v : Due.BAD);
        street.back();
    }

    private static void items(String what, StreetTillTen x, int sheet, int sort, int... v) {
        for (int i = 0; i < v.length; i++) {
            item(what, x, sheet, sort, i, v[i]);
        }
        Due.is(what + ", as many items", x.copy(sheet, 0, sheet, 0, v.length), v.length);
        Due.is(what + ", no more items", x.copy(sheet, 0, sheet, 0, v.length + 1), Due.OUTSIDE);
    }

    // ---- 28

    private static void sheetBad() {
        for (int sheet : NO_SHEETS) {
            Due.idle("28: no SHEET " + sheet, y -> y.sheet(sheet, 0, 1), Due.BAD);
            Due.idle("28: no SHEET " + sheet + " that is missing", y -> y.sheet(sheet, -1, 1), Due.BAD);
            Due.idle("28: no SHEET " + sheet + " ahead of -14", y -> y.sheet(sheet, 0, -1), Due.BAD);
        }
        for (int sort : new int[] {-2, 3, 4, 256, 255, LEAST, MOST}) {
            Due.idle("28: sort " + sort, y -> y.sheet(0, sort, 1), Due.BAD);
            Due.idle("28: sort " + sort + " ahead of -14", y -> y.sheet(0, sort, -1), Due.BAD);
        }
        for (int n : new int[] {41, 42, 256, MOST}) {
            Due.idle("28: n " + n, y -> y.sheet(0, 0, n), Due.BAD);
            Due.idle("28: n " + n + " of a SHEET that is missing", y -> y.sheet(3, 2, n), Due.BAD);
        }
    }

    private static void sheetSizes() {
        for (int sheet = 0; sheet < 4; sheet++) {
            for (int sort = 0; sort < 3; sort++) {
                for (int n : new int[] {0, 1, 2, 39, 40}) {
                    StreetTillTen x = Streets.busy();
                    String what = "28: SHEET " + sheet + " of sort " + sort + ", n " + n;
                    Due.is(what, x.sheet(sheet, sort, n), 1);
                    Due.is(what + " has its last item", x.cell(sheet, n - 1, 1), n == 0 ? Due.OUTSIDE : 1);
                    Due.is(what + " has none behind it", x.cell(sheet, n, 1), Due.OUTSIDE);
                    for (int other = 0; other < 3; other++) {
                        Due.is(what + " taken for " + other, x.houses(sheet, other, 0, 0), other == sort ? 0 : Due.UNLIKE);
                    }
                }
            }
        }
    }

    private static void sheetNegative() {
        for (int n : new int[] {-1, -2, -40, LEAST}) {
            for (int sort = 0; sort < 3; sort++) {
                int of = sort;
                Due.idle("28: n " + n + " of sort " + sort, y -> y.sheet(0, of, n), Due.NEGATIVE);
                Due.idle("28: n " + n + " of a SHEET that is missing", y -> y.sheet(3, of, n), Due.NEGATIVE);
            }
        }
    }

    private static void sheetMissing() {
        for (int n : new int[] {0, 40, 41, -1, LEAST, MOST}) {
            for (int sheet = 0; sheet < 4; sheet++) {
                StreetTillTen x = Streets.busy();
                Due.is("28: missing, n " + n, x.sheet(sheet, -1, n), 1);
                Due.is("28: it is missing", x.cell(sheet, 0, 1), Due.NOTHING);
                Due.is("28: missing again", x.sheet(sheet, -1, n), 1);
                Due.is("28: and comes again", x.sheet(sheet, 1, 1), 1);
                Due.is("28: and is there", x.cell(sheet, 0, 1), 1);
            }
        }
    }

    private static void sheetAllZero() {
        for (int sort = 0; sort < 3; sort++) {
            StreetTillTen x = new StreetTillTen();
            x.sheet(0, 2, 40);
            for (int i = 0; i < 40; i++) {
                x.cell(0, i, 9);
            }
            x.sheet(0, sort, 4);
            items("28: all 0 of a longer one", x, 0, sort, 0, 0, 0, 0);
            x.sheet(0, 2, 40);
            for (int i = 0; i < 40; i += 3) {
                item("28: all 0 of a shorter one", x, 0, 2, i, 0);
            }
            x.cell(0, 39, 9);
            x.sheet(0, -1, 0);
            x.sheet(0, sort, 40);
            item("28: all 0 of one that was missing", x, 0, sort, 39, 0);
        }
    }

    private static void sheetOfItsOwn() {
        StreetTillTen x = new StreetTillTen();
        for (int sheet = 0; sheet < 3; sheet++) {
            Due.sheet(x, sheet, 0, sheet + 1, sheet + 4);
        }
        x.cell(1, 0, 9);
        items("28: SHEET 0 is of its own", x, 0, 0, 1, 4);
        items("28: SHEET 1 is of its own", x, 1, 0, 9, 5);
        items("28: SHEET 2 is of its own", x, 2, 0, 3, 6);
        x.sheet(1, -1, 0);
        items("28: SHEET 0 stays", x, 0, 0, 1, 4);
        items("28: SHEET 2 stays", x, 2, 0, 3, 6);
    }

    // ---- 29

    private static void cellBad() {
        for (int sheet : NO_SHEETS) {
            Due.idle("29: no SHEET " + sheet, y -> y.cell(sheet, 0, 1), Due.BAD);
        }
        for (int i : new int[] {0, -1, 40, MOST}) {
            Due.idle("29: missing, item " + i, y -> y.cell(3, i, 1), Due.NOTHING);
        }
    }

    private static void cellPlaces() {
        for (int i : new int[] {-1, 5, 6, 39, 40, 256, LEAST, MOST}) {
            Due.idle("29: no item " + i + " of five", y -> y.cell(0, i, 1), Due.OUTSIDE);
        }
        for (int sort = 0; sort < 3; sort++) {
            for (int i = 0; i < 3; i++) {
                StreetTillTen x = new StreetTillTen();
                Due.sheet(x, 0, sort, 1, 2, 3);
                Due.is("29: item " + i, x.cell(0, i, 8), 1);
                items("29: of sort " + sort, x, 0, sort, i == 0 ? 8 : 1, i == 1 ? 8 : 2, i == 2 ? 8 : 3);
            }
            StreetTillTen none = new StreetTillTen();
            none.sheet(0, sort, 0);
            Due.is("29: an empty one has no item", none.cell(0, 0, 1), Due.OUTSIDE);
        }
    }

    private static void cellInOrder() {
        Due.is("29: no SHEET, ahead of outside", Streets.busy().cell(4, -1, 1), Due.BAD);
        Due.is("29: nothing, ahead of outside", Streets.busy().cell(3, -1, 1), Due.NOTHING);
    }

    /** What is left of 8, 16 and 32 bits; those from 128 and 32768 on are below 0. */
    private static void cellWraps() {
        int[] v = {256 + 7, 65536 + 7, -256 + 7, -65536 + 7, LEAST + 7, 9, 7 + 128, 7 + 32768, -1, MOST};
        int[] bytes = {7, 7, 7, 7, 7, 9, -1, 7, -1, -1};
        int[] shorts = {-1, 7, -1, 7, 7, 9, -1, -1, -1, -1};
        int[] ints = {-1, -1, -1, -1, -1, 9, -1, -1, -1, -1};
        int[][] due = {bytes, shorts, ints};
        for (int sort = 0; sort < 3; sort++) {
            for (int i = 0; i < v.length; i++) {
                StreetTillTen x = new StreetTillTen();
                x.sheet(0, sort, 1);
                Due.is("29: any v, " + v[i], x.cell(0, 0, v[i]), 1);
                item("29: " + v[i] + " of sort " + sort, x, 0, sort, 0, due[sort][i]);
            }
        }
        StreetTillTen x = Streets.alike(2, 30);
        int[] told = {127, 128, 255, 256 + 20, 32767, 32768, 65535, 65536 + 20, MOST, LEAST};
        boolean[][] is = {
            {true, false, false, true, false, false, false, true, false, false},
            {true, true, true, true, true, false, false, true, false, false},
            {true, true, true, true, true, true, true, true, true, false},
        };
        for (int sort = 0; sort < 3; sort++) {
            for (int i = 0; i < told.length; i++) {
                Due.sheet(x, 0, sort, 0, told[i]);
                Due.is("29: " + told[i] + " of sort " + sort + " is 20 or more", x.tells(0, 0, 5), is[sort][i] ? 30 : 69);
            }
        }
    }

    // ---- 30

    private static void copyBad() {
        for (int sheet : NO_SHEETS) {
            Due.idle("30: from no SHEET " + sheet, y -> y.copy(sheet, 0, 0, 0, 1), Due.BAD);
            Due.idle("30: to no SHEET " + sheet, y -> y.copy(0, 0, sheet, 0, 1), Due.BAD);
            Due.idle("30: from and to no SHEET " + sheet, y -> y.copy(sheet, 0, sheet, 0, 1), Due.BAD);
        }
        Due.idle("30: from nothing", y -> y.copy(3, 0, 0, 0, 1), Due.NOTHING);
        Due.idle("30: to nothing", y -> y.copy(0, 0, 3, 0, 1), Due.NOTHING);
        Due.idle("30: from and to nothing", y -> y.copy(3, 0, 3, 0, 1), Due.NOTHING);
        for (int sheet = 0; sheet < 3; sheet++) {
            int to = (sheet + 1) % 3;
            int from = sheet;
            Due.idle("30: unlike sorts, " + sheet + " and " + to, y -> y.copy(from, 0, to, 0, 1), Due.UNLIKE);
            Due.idle("30: unlike sorts, " + to + " and " + sheet, y -> y.copy(to, 0, from, 0, 1), Due.UNLIKE);
        }
    }

    private static void copyInOrder() {
        Due.idle("30: no SHEET, ahead of nothing", y -> y.copy(3, 0, 4, 0, 1), Due.BAD);
        Due.idle("30: no SHEET, ahead of nothing, the other way", y -> y.copy(4, 0, 3, 0, 1), Due.BAD);
        Due.idle("30: no SHEET, ahead of outside", y -> y.copy(0, -1, 4, 0, -1), Due.BAD);
        Due.idle("30: nothing, ahead of outside", y -> y.copy(3, -1, 0, -1, -1), Due.NOTHING);
        Due.idle("30: to nothing, ahead of outside", y -> y.copy(0, 9, 3, 9, 9), Due.NOTHING);
        Due.idle("30: unlike sorts, ahead of outside", y -> y.copy(0, 9, 1, 9, 9), Due.UNLIKE);
        Due.idle("30: unlike sorts, ahead of n below 0", y -> y.copy(0, 0, 1, 0, -1), Due.UNLIKE);
        Due.idle("30: unlike sorts, though none come", y -> y.copy(0, 0, 2, 0, 0), Due.UNLIKE);
        Due.idle("30: nothing, though none come", y -> y.copy(0, 0, 3, 0, 0), Due.NOTHING);
    }

    /** From five items to three. */
    private static StreetTillTen two() {
        StreetTillTen x = Streets.busy();
        Due.sheet(x, 3, 0, 1, 9, 2);
        return x;
    }

    private static void copyPlaces() {
        int[][] outside = {
            {-1, 0, 1}, {0, -1, 1}, {5, 0, 1}, {0, 3, 1}, {4, 0, 2}, {0, 2, 2}, {3, 0, 3}, {0, 1, 3}, {0, 0, 4}, {2, 0, 4},
            {0, 0, -1}, {1, 1, -1}, {0, 0, LEAST}, {0, 0, MOST}, {MOST, 0, 1}, {0, MOST, 1}, {LEAST, 0, 1}, {0, LEAST, 1},
            {-1, 0, 0}, {0, -1, 0}, {6, 0, 0}, {0, 4, 0}, {MOST, MOST, MOST}, {LEAST, LEAST, LEAST}, {1, 1, MOST}, {-1, -1, 2},
        };
        for (int[] o : outside) {
            Due.idle("30: from " + o[0] + " to " + o[1] + ", n " + o[2], EdgesOfHostTest::two, y -> y.copy(0, o[0], 3, o[1], o[2]), Due.OUTSIDE);
        }
        int[][] inside = {{0, 0, 3}, {2, 0, 3}, {4, 2, 1}, {0, 2, 1}, {4, 0, 1}, {3, 1, 2}};
        for (int[] i : inside) {
            StreetTillTen x = two();
            Due.is("30: from " + i[0] + " to " + i[1] + ", n " + i[2], x.copy(0, i[0], 3, i[1], i[2]), i[2]);
            Due.is("30: they are in it, from " + i[0] + " to " + i[1], x.copy(3, i[1], 0, i[0], i[2]), i[2]);
        }
    }

    private static void copyOfNone() {
        for (int i = 0; i <= 5; i++) {
            for (int j = 0; j <= 3; j++) {
                int from = i;
                int to = j;
                Due.idle("30: none from " + i + " to " + j, EdgesOfHostTest::two, y -> y.copy(0, from, 3, to, 0), 0);
            }
        }
        StreetTillTen x = new StreetTillTen();
        x.sheet(0, 0, 0);
        x.sheet(1, 0, 0);
        Due.is("30: none of none", x.copy(0, 0, 1, 0, 0), 0);
        Due.is("30: none within one of none", x.copy(0, 0, 0, 0, 0), 0);
        Due.is("30: one of none", x.copy(0, 0, 1, 0, 1), Due.OUTSIDE);
    }

    private static void copyAsTheyWere() {
        for (int sort = 0; sort < 3; sort++) {
            StreetTillTen up = new StreetTillTen();
            Due.sheet(up, 0, sort, 1, 2, 3, 4, 5);
            Due.is("30: one place up", up.copy(0, 0, 0, 1, 4), 4);
            items("30: as they were, up", up, 0, sort, 1, 1, 2, 3, 4);
            StreetTillTen down = new StreetTillTen();
            Due.sheet(down, 0, sort, 1, 2, 3, 4, 5);
            Due.is("30: one place down", down.copy(0, 1, 0, 0, 4), 4);
            items("30: as they were, down", down, 0, sort, 2, 3, 4, 5, 5);
            StreetTillTen same = new StreetTillTen();
            Due.sheet(same, 0, sort, 1, 2, 3, 4, 5);
            Due.is("30: to where they are", same.copy(0, 0, 0, 0, 5), 5);
            items("30: they stay", same, 0, sort, 1, 2, 3, 4, 5);
            StreetTillTen other = new StreetTillTen();
            Due.sheet(other, 0, sort, 1, 2, 3);
            Due.sheet(other, 1, sort, 7, 8, 9, 7);
            Due.is("30: to another one", other.copy(0, 1, 1, 2, 2), 2);
            items("30: those that came", other, 1, sort, 7, 8, 2, 3);
            items("30: those that they came from", other, 0, sort, 1, 2, 3);
        }
    }

    private static void copyOfAll() {
        StreetTillTen x = new StreetTillTen();
        x.sheet(0, 2, 40);
        x.sheet(1, 2, 40);
        x.cell(0, 0, 3);
        x.cell(0, 39, 4);
        Due.is("30: forty", x.copy(0, 0, 1, 0, 40), 40);
        item("30: the first of forty", x, 1, 2, 0, 3);
        item("30: the last of forty", x, 1, 2, 39, 4);
        Due.is("30: forty-one", x.copy(0, 0, 1, 0, 41), Due.OUTSIDE);
        Due.is("30: none from behind the last", x.copy(0, 40, 1, 40, 0), 0);
        Due.is("30: none from beyond that", x.copy(0, 41, 1, 0, 0), Due.OUTSIDE);
    }

    /** Places and n whose sum is no int. */
    private static void copyWraps() {
        int[] far = {MOST, MOST - 1, MOST - 39, LEAST, LEAST + 1, -1};
        for (int i : far) {
            for (int n : far) {
                Due.is("30: from " + i + ", n " + n, two().copy(0, i, 3, 0, n), Due.OUTSIDE);
                Due.is("30: to " + i + ", n " + n, two().copy(0, 0, 3, i, n), Due.OUTSIDE);
            }
        }
    }

    // ---- 31

    private static void housesBad() {
        for (int sheet : NO_SHEETS) {
            Due.idle("31: no SHEET " + sheet, y -> y.houses(sheet, 0, 0, 1), Due.BAD);
        }
        for (int sort : new int[] {-2, -1, 3, 4, 256, LEAST, MOST}) {
            Due.idle("31: sort " + sort, y -> y.houses(0, sort, 0, 1), Due.BAD);
            Due.idle("31: sort " + sort + " of one that is missing", y -> y.houses(3, sort, 0, 1), Due.BAD);
        }
        for (int n : new int[] {-1, 9, 10, 256, LEAST, MOST}) {
            Due.idle("31: n " + n, y -> y.houses(0, 0, 0, n), Due.BAD);
            Due.idle("31: n " + n + " of one that is missing", y -> y.houses(3, 0, 0, n), Due.BAD);
            Due.idle("31: n " + n + " of another sort", y -> y.houses(0, 1, 0, n), Due.BAD);
        }
    }

    private static void housesInOrder() {
        for (int sort = 0; sort < 3; sort++) {
            int of = sort;
            Due.idle("31: nothing, taken for sort " + sort, y -> y.houses(3, of, 0, 1), Due.NOTHING);
            Due.idle("31: nothing, ahead of outside, sort " + sort, y -> y.houses(3, of, -1, 8), Due.NOTHING);
            for (int sheet = 0; sheet < 3; sheet++) {
                int from = sheet;
                if (sheet != sort) {
                    Due.idle("31: SHEET " + sheet + " is not of sort " + sort, y -> y.houses(from, of, 0, 1), Due.UNLIKE);
                    Due.idle("31: -13 is ahead of -12, " + sheet + " " + sort, y -> y.houses(from, of, -1, 1), Due.UNLIKE);
                    Due.idle("31: -13, though none come, " + sheet + " " + sort, y -> y.houses(from, of, 0, 0), Due.UNLIKE);
                }
            }
        }
        Due.idle("31: nothing, though none come", y -> y.houses(3, 0, 0, 0), Due.NOTHING);
    }

    private static void housesMany() {
        for (int n = 0; n <= 8; n++) {
            for (int sort = 0; sort < 3; sort++) {
                StreetTillTen x = new StreetTillTen();
                x.sheet(0, sort, 16);
                for (int i = 0; i < 8; i++) {
                    x.cell(0, 2 * i, i % 6);
                    x.cell(0, 2 * i + 1, i + 2);
                }
                Due.is("31: " + n + " of sort " + sort, x.houses(0, sort, 0, n), n < 8 ? n : 8);
                Due.is("31: as many are there", x.count(0), n);
                for (int i = 0; i < n; i++) {
                    Due.is("31: KIND of " + i, x.told(i, 4), i % 6);
                    Due.is("31: NUMBER of " + i, x.told(i, 2), i + 2);
                    Due.is("31: TABLE of " + i, x.told(i, 3), Due.NONE);
                }
            }
        }
    }

    /** SHEET 1 has the items 0 9, 2 8, 3 7. */
    private static void housesPlaces() {
        int[] came = {1, 0, 1, 0, 1};
        for (int from = 0; from < 5; from++) {
            Due.is("31: from " + from, Streets.busy().houses(1, 1, from, 1), came[from]);
        }
        for (int from : new int[] {-1, -2, 5, 6, 7, 40, LEAST, LEAST + 1, MOST, MOST - 1, MOST - 15}) {
            Due.idle("31: from " + from + ", outside", y -> y.houses(1, 1, from, 1), Due.OUTSIDE);
            Due.idle("31: eight from " + from + ", outside", y -> y.houses(1, 1, from, 8), Due.OUTSIDE);
            Due.idle("31: none from " + from, y -> y.houses(1, 1, from, 0), 0);
        }
        StreetTillTen full = Streets.away(0);
        full.sheet(0, 0, 40);
        Due.is("31: the last two of forty", full.houses(0, 0, 38, 1), 1);
        Due.is("31: half of that is outside", full.houses(0, 0, 39, 1), Due.OUTSIDE);
        Due.is("31: eight up to the end", full.houses(0, 0, 24, 8), 7);
        StreetTillTen none = new StreetTillTen();
        none.sheet(0, 0, 0);
        Due.is("31: none of an empty one", none.houses(0, 0, 0, 0), 0);
        Due.is("31: one of an empty one", none.houses(0, 0, 0, 1), Due.OUTSIDE);
    }

    private static void housesLeftOut() {
        int[][] bad = {{-1, 0}, {6, 0}, {0, -1}, {0, 10}, {MOST, 0}, {0, LEAST}};
        for (int[] b : bad) {
            StreetTillTen x = new StreetTillTen();
            Due.sheet(x, 0, 2, 5, 9, b[0], b[1], 4, 8);
            Due.is("31: " + b[0] + ", " + b[1] + " is left out", x.houses(0, 2, 0, 3), 2);
            Due.is("31: the one ahead came", x.told(0, 4), 5);
            Due.is("31: the one behind came", x.told(1, 4), 4);
            Due.is("31: two came", x.count(0), 2);
            Due.is("31: by itself none comes", x.houses(0, 2, 2, 1), 0);
        }
        StreetTillTen x = new StreetTillTen();
        Due.sheet(x, 0, 0, 0, 0, 5, 9);
        Due.is("31: at the bounds both come", x.houses(0, 0, 0, 2), 2);
    }

    private static void housesWhatStoodAhead() {
        for (int size = 0; size <= 5; size++) {
            StreetTillTen x = Streets.busy();
            x.back();
            x.sheet(0, 0, size);
            Due.is("31: three of " + size + " items", x.houses(0, 0, 0, 3), Due.OUTSIDE);
            Due.is("31: what stood ahead came", x.count(0), 3 + size / 2);
        }
        StreetTillTen bad = new StreetTillTen();
        Due.sheet(bad, 0, 1, 6, 6, 1, 1, 2);
        Due.is("31: what is left out does not end it", bad.houses(0, 1, 0, 3), Due.OUTSIDE);
        Due.is("31: the second one came", bad.count(0), 1);
        Due.is("31: it is LOUD", bad.told(0, 4), 1);
    }

    private static void housesFull() {
        StreetTillTen x = Streets.full();
        x.sheet(0, 0, 16);
        Due.is("31: all are left out", x.houses(0, 0, 0, 8), 0);
        Due.is("31: eight are there", x.count(0), 8);
        Due.is("31: but outside is outside", x.houses(0, 0, 2, 8), Due.OUTSIDE);
        StreetTillTen seven = Streets.away(7);
        seven.sheet(0, 0, 16);
        seven.cell(0, 0, 6);
        Due.is("31: one is left out, one comes, others have no room", seven.houses(0, 0, 0, 8), 1);
        Due.is("31: eight are there then", seven.count(0), 8);
    }

    // ---- 32

    private static void takenBad() {
        for (int k : new int[] {-1, 6, 7, 256, LEAST, MOST}) {
            Due.idle("32: KIND " + k, y -> y.taken(0, k), Due.BAD);
            Due.idle("32: KIND " + k + " of no HOUSE", y -> y.taken(5, k), Due.BAD);
        }
        for (int house : new int[] {-1, 5, 7, 8, 256, LEAST, MOST}) {
            for (int k = 0; k < 6; k++) {
                int of = k;
                Due.idle("32: no HOUSE " + house + ", KIND " + k, y -> y.taken(house, of), Due.NOTHING);
            }
        }
        Due.is("32: no HOUSES", new StreetTillTen().taken(0, 0), Due.NOTHING);
        Due.is("32: no HOUSES, KIND 6", new StreetTillTen().taken(0, 6), Due.BAD);
        Due.is("32: no HOUSE 8 of eight", Streets.full().taken(8, 0), Due.NOTHING);
        Due.is("32: HOUSE 7 of eight", Streets.full().taken(7, 0), 3);
    }

    private static void takenOfKinds() {
        String[] under = {"0", "01", "02", "013", "024", "05"};
        for (int kind = 0; kind < 6; kind++) {
            for (int k = 0; k < 6; k++) {
                StreetTillTen x = new StreetTillTen();
                x.house(kind, 7);
                boolean is = under[kind].indexOf('0' + k) >= 0;
                Due.is("32: KIND " + kind + " taken for KIND " + k, x.taken(0, k), is ? 7 : Due.UNLIKE);
            }
        }
    }

    private static void takenNumbers() {
        for (int number : new int[] {0, 1, 8, 9}) {
            StreetTillTen x = new StreetTillTen();
            x.house(3, 5);
            x.set(2, 0, number);
            Due.is("32: NUMBER " + number, x.taken(0, 1), number);
        }
        Due.idle("32: taken", y -> y.taken(3, 0), 4);
        Due.idle("32: not taken", y -> y.taken(0, 3), Due.UNLIKE);
    }
}
