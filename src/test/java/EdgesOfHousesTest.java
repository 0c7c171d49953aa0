/** Promises 1 to 5, sentence by sentence: each bound, one below and one above it, what is empty and what is full. */
public final class EdgesOfHousesTest {
    private static final int LEAST = Integer.MIN_VALUE, MOST = Integer.MAX_VALUE;

    public static void main(String[] args) {
        newHasNoHouses();
        newHasTheFirstNumbers();
        newIsOfItsOwn();
        year();
        limit();
        number();
        table();
        setOfNoHouse();
        setOfNoMatter();
        setWhat();
        kinds();
        numbers();
        eightAtMost();
        fullAndBad();
        theLaterOneComes();
        strengths();
        bindNoSuch();
        bindOneAndTheSame();
        toldWhat();
        toldNoSuch();
        toldOfNoMatter();
        toldKnows();
        toldSeats();
        toldSounds();
        toldStrength();
        Due.end();
    }

    // ---- 1

    private static void newHasNoHouses() {
        Due.is("1: no HOUSES", new StreetTillTen().count(0), 0);
        Due.is("1: none at a TABLE", new StreetTillTen().count(1), 0);
        for (int what = 2; what <= 17; what++) {
            Due.is("1: no HOUSE 0 is told, what " + what, new StreetTillTen().told(0, what), Due.BAD);
        }
        Due.is("1: the first is HOUSE 0", new StreetTillTen().house(0, 0), 0);
    }

    private static void newHasTheFirstNumbers() {
        Due.is("1: YEAR 0 at first", new StreetTillTen().set(0, 0, 3), 0);
        Due.is("1: LIMIT 20 at first", new StreetTillTen().set(1, 0, 3), 20);
        Due.is("1: TEXT 0 is with the TEXTS", new StreetTillTen().count(3), 1);
        Due.is("1: THE RULE is TEXT 0 at first", new StreetTillTen().force(0), 0);
        Due.is("1: THE TAPE is empty at first", new StreetTillTen().feed('m'), 1);
        Due.is("1: no IMAGE at first", new StreetTillTen().back(), Due.STATE);
        for (int sheet = 0; sheet < 4; sheet++) {
            Due.is("1: SHEET " + sheet + " is missing at first", new StreetTillTen().copy(sheet, 0, sheet, 0, 0), Due.NOTHING);
        }
        StreetTillTen x = Due.street(2, 2, 2);
        Due.is("1: TEXT 0: meets 5", x.asks(0, 1, 0), 5);
        Due.is("1: TEXT 0: fades 2", x.asks(0, 1, 1), 2);
        Due.is("1: TEXT 0: sounds seats", x.told(0, 7), 3);
    }

    /** Nothing of one object is another one's. */
    private static void newIsOfItsOwn() {
        StreetTillTen first = new StreetTillTen();
        StreetTillTen alone = new StreetTillTen();
        java.util.List<Long> as = Seen.of(() -> alone);
        Streets.full().feast();
        StreetTillTen last = new StreetTillTen();
        Due.is("1: an object that was there before", Seen.of(() -> first).equals(as) ? 1 : 0, 1);
        Due.is("1: an object that is made later", Seen.of(() -> last).equals(as) ? 1 : 0, 1);
    }

    // ---- 2

    private static void year() {
        StreetTillTen x = Streets.busy();
        Due.is("2: YEAR 0", x.set(0, 0, 0), 6);
        Due.is("2: YEAR 1", x.set(0, 0, 1), 0);
        Due.is("2: YEAR 998", x.set(0, 0, 998), 1);
        Due.is("2: YEAR 999", x.set(0, 0, 999), 998);
        Due.is("2: YEAR is 999", x.told(0, 0), 999);
        for (int v : new int[] {-1, 1000, LEAST, MOST, 65536, -65536}) {
            Due.idle("2: YEAR " + v, y -> y.set(0, 0, v), Due.BAD);
        }
    }

    private static void limit() {
        StreetTillTen x = Streets.busy();
        Due.is("2: LIMIT 1", x.set(1, 0, 1), 19);
        Due.is("2: LIMIT 2", x.set(1, 0, 2), 1);
        Due.is("2: LIMIT 98", x.set(1, 0, 98), 2);
        Due.is("2: LIMIT 99", x.set(1, 0, 99), 98);
        Due.is("2: LIMIT is 99", x.told(0, 1), 99);
        for (int v : new int[] {-1, 0, 100, LEAST, MOST, 257, 65537}) {
            Due.idle("2: LIMIT " + v, y -> y.set(1, 0, v), Due.BAD);
        }
    }

    private static void number() {
        StreetTillTen x = Streets.busy();
        Due.is("2: NUMBER 0", x.set(2, 0, 0), 3);
        Due.is("2: NUMBER 1", x.set(2, 0, 1), 0);
        Due.is("2: NUMBER 8", x.set(2, 0, 8), 1);
        Due.is("2: NUMBER 9", x.set(2, 0, 9), 8);
        Due.is("2: NUMBER is 9", x.told(0, 2), 9);
        for (int v : new int[] {-1, 10, LEAST, MOST, 256, 65536}) {
            Due.idle("2: NUMBER " + v, y -> y.set(2, 0, v), Due.BAD);
        }
    }

    private static void table() {
        StreetTillTen x = Streets.busy();
        Due.is("2: TABLE NONE", x.set(3, 0, Due.NONE), 0);
        Due.is("2: TABLE 0", x.set(3, 0, 0), Due.NONE);
        Due.is("2: TABLE 2", x.set(3, 0, 2), 0);
        Due.is("2: TABLE 3", x.set(3, 0, 3), 2);
        Due.is("2: TABLE is 3", x.told(0, 3), 3);
        for (int v : new int[] {-2, 4, LEAST, MOST, 255, 65535, -257}) {
            Due.idle("2: TABLE " + v, y -> y.set(3, 0, v), Due.BAD);
        }
    }

    private static void setOfNoHouse() {
        for (int what = 2; what <= 3; what++) {
            int of = what;
            Due.is("2: the first HOUSE, what " + what, Streets.busy().set(what, 0, 1), what == 2 ? 3 : 0);
            Due.is("2: the last HOUSE, what " + what, Streets.busy().set(what, 4, 1), what == 2 ? 8 : 2);
            for (int house : new int[] {-1, 5, 7, 8, 256, LEAST, MOST}) {
                Due.idle("2: no HOUSE " + house + ", what " + what, y -> y.set(of, house, 1), Due.BAD);
            }
            Due.is("2: no HOUSE 0 on an empty street, what " + what, new StreetTillTen().set(what, 0, 1), Due.BAD);
            Due.is("2: HOUSE 7 of a full one, what " + what, Streets.full().set(what, 7, 1), what == 2 ? 3 : Due.NONE);
            Due.idle("2: no HOUSE 8 on a full one, what " + what, Streets::full, y -> y.set(of, 8, 1), Due.BAD);
        }
    }

    private static void setOfNoMatter() {
        for (int of : new int[] {-1, 0, 4, 5, 8, LEAST, MOST}) {
            Due.is("2: YEAR, of " + of, Streets.busy().set(0, of, 999), 6);
            Due.is("2: LIMIT, of " + of, Streets.busy().set(1, of, 99), 19);
            Due.is("2: YEAR on an empty street, of " + of, new StreetTillTen().set(0, of, 999), 0);
            Due.is("2: LIMIT on an empty street, of " + of, new StreetTillTen().set(1, of, 99), 20);
        }
    }

    private static void setWhat() {
        for (int what : new int[] {-1, 4, 5, 10, 256, LEAST, MOST}) {
            Due.idle("2: what " + what, y -> y.set(what, 0, 1), Due.BAD);
        }
    }

    // ---- 3

    private static void kinds() {
        for (int kind = 0; kind <= 5; kind++) {
            StreetTillTen x = Streets.busy();
            Due.is("3: KIND " + kind, x.house(kind, 1), 5);
            Due.is("3: KIND " + kind + " is told", x.told(5, 4), kind);
        }
        for (int kind : new int[] {-1, 6, LEAST, MOST, 256}) {
            Due.idle("3: KIND " + kind, y -> y.house(kind, 1), Due.BAD);
        }
    }

    private static void numbers() {
        for (int number : new int[] {0, 1, 8, 9}) {
            StreetTillTen x = Streets.busy();
            Due.is("3: NUMBER " + number, x.house(1, number), 5);
            Due.is("3: NUMBER " + number + " is told", x.told(5, 2), number);
        }
        for (int number : new int[] {-1, 10, LEAST, MOST, 256}) {
            Due.idle("3: NUMBER " + number, y -> y.house(1, number), Due.BAD);
        }
    }

    private static void eightAtMost() {
        StreetTillTen x = new StreetTillTen();
        for (int house = 0; house < 8; house++) {
            Due.is("3: numbered from 0: " + house, x.house(0, house), house);
            Due.is("3: how many there are", x.count(0), house + 1);
        }
        Due.is("3: the ninth", x.house(0, 8), Due.FULL);
        Due.is("3: still eight", x.count(0), 8);
        Due.idle("3: FULL", Streets::full, y -> y.house(0, 0), Due.FULL);
    }

    private static void fullAndBad() {
        Due.idle("3: BAD is ahead of FULL: KIND -1", Streets::full, y -> y.house(-1, 0), Due.BAD);
        Due.idle("3: BAD is ahead of FULL: KIND 6", Streets::full, y -> y.house(6, 0), Due.BAD);
        Due.idle("3: BAD is ahead of FULL: NUMBER -1", Streets::full, y -> y.house(0, -1), Due.BAD);
        Due.idle("3: BAD is ahead of FULL: NUMBER 10", Streets::full, y -> y.house(0, 10), Due.BAD);
    }

    private static void theLaterOneComes() {
        StreetTillTen x = Streets.alike(7, 99);
        x.image();
        x.house(0, 0);
        x.set(3, 7, 0);
        for (int other = 0; other < 7; other++) {
            x.bind(7, other, 98);
        }
        x.back();
        Due.is("3: it comes where another one was", x.house(3, 9), 7);
        Due.is("3: it isn't there, as it comes", x.told(7, 3), Due.NONE);
        for (int other = 0; other < 7; other++) {
            Due.is("3: STRENGTH 0 as the later one comes, with " + other, x.told(7, 10 + other), 0);
            Due.is("3: STRENGTH 0 as the later one comes, of " + other, x.told(other, 17), 0);
            Due.is("3: STRENGTH of others stays, " + other, x.told(other, 10 + (other + 1) % 7), 99);
        }
        Due.is("3: YEAR stays", x.told(0, 0), 0);
    }

    // ---- 4

    private static void strengths() {
        StreetTillTen x = Streets.busy();
        Due.is("4: STRENGTH 0", x.bind(0, 4, 0), 0);
        Due.is("4: STRENGTH 1", x.bind(4, 0, 1), 0);
        Due.is("4: STRENGTH 98", x.bind(0, 4, 98), 1);
        Due.is("4: STRENGTH 99", x.bind(4, 0, 99), 98);
        Due.is("4: STRENGTH 0 again", x.bind(0, 4, 0), 99);
        for (int v : new int[] {-1, 100, LEAST, MOST, 256, -256}) {
            Due.idle("4: v " + v, y -> y.bind(0, 1, v), Due.BAD);
        }
    }

    private static void bindNoSuch() {
        for (int house : new int[] {-1, 5, 7, 8, 256, LEAST, MOST}) {
            Due.idle("4: no such one, " + house, y -> y.bind(house, 0, 1), Due.BAD);
            Due.idle("4: no such other, " + house, y -> y.bind(0, house, 1), Due.BAD);
        }
        Due.is("4: the last HOUSE", Streets.busy().bind(4, 3, 1), 17);
        Due.is("4: the last of a full street", Streets.full().bind(7, 0, 1), 0);
        Due.idle("4: no HOUSE 8 on a full street", Streets::full, y -> y.bind(8, 0, 1), Due.BAD);
        Due.idle("4: no other HOUSE 8 on a full street", Streets::full, y -> y.bind(0, 8, 1), Due.BAD);
        Due.is("4: no HOUSES", new StreetTillTen().bind(0, 1, 1), Due.BAD);
    }

    private static void bindOneAndTheSame() {
        for (int house : new int[] {-1, 0, 1, 4, 5}) {
            Due.idle("4: one and the same, " + house, y -> y.bind(house, house, 1), Due.BAD);
        }
        Due.is("4: STRENGTH with itself stays 0", Streets.busy().told(1, 11), 0);
    }

    // ---- 5

    private static void toldWhat() {
        for (int what : new int[] {-1, 8, 9, 15, 16, 17, 18, 256, LEAST, MOST}) {
            Due.idle("5: what " + what + " of five HOUSES", y -> y.told(0, what), Due.BAD);
        }
        int[] told = {6, 19, 8, 2, 5, 0, 2, 8};
        for (int what = 0; what < 8; what++) {
            int of = what;
            Due.idle("5: what " + what, y -> y.told(4, of), told[what]);
        }
        int[] strengths = {20, 0, 19, 0, 0};
        for (int other = 0; other < 5; other++) {
            int what = 10 + other;
            Due.idle("5: what " + what, y -> y.told(1, what), strengths[other]);
        }
        Due.is("5: what 17 of eight HOUSES", Streets.full().told(0, 17), 0);
        Due.idle("5: what 18 of eight HOUSES", Streets::full, y -> y.told(0, 18), Due.BAD);
    }

    private static void toldNoSuch() {
        for (int of : new int[] {-1, 5, 7, 8, LEAST, MOST}) {
            for (int what : new int[] {2, 3, 4, 5, 6, 7, 10, 14}) {
                Due.is("5: no HOUSE " + of + ", what " + what, Streets.busy().told(of, what), Due.BAD);
            }
        }
        Due.is("5: no HOUSE 8 on a full street", Streets.full().told(8, 2), Due.BAD);
        Due.is("5: HOUSE 7 on a full street", Streets.full().told(7, 2), 3);
    }

    private static void toldOfNoMatter() {
        for (int of : new int[] {-1, 0, 5, 8, LEAST, MOST}) {
            Due.is("5: YEAR, of " + of, Streets.busy().told(of, 0), 6);
            Due.is("5: LIMIT, of " + of, Streets.busy().told(of, 1), 19);
            Due.is("5: YEAR on an empty street, of " + of, new StreetTillTen().told(of, 0), 0);
            Due.is("5: LIMIT on an empty street, of " + of, new StreetTillTen().told(of, 1), 20);
        }
    }

    private static void toldKnows() {
        int[] limits = {1, 2, 20, 98, 99};
        for (int limit : limits) {
            StreetTillTen x = Streets.away(3);
            x.set(1, 0, limit);
            x.bind(0, 2, limit - 1);
            Due.is("5: one less than LIMIT " + limit, x.told(0, 5), 0);
            x.bind(0, 2, limit);
            Due.is("5: LIMIT " + limit, x.told(0, 5), 1);
            x.bind(0, 2, Math.min(99, limit + 1));
            Due.is("5: one more than LIMIT " + limit, x.told(2, 5), 1);
            Due.is("5: not the third, LIMIT " + limit, x.told(1, 5), 0);
        }
        Due.is("5: alone it KNOWS nobody", Streets.away(1).told(0, 5), 0);
        Due.is("5: it KNOWS all seven others, not itself", Streets.alike(8, 99).told(7, 5), 7);
    }

    private static void toldSeats() {
        Due.is("5: eight at its TABLE", Streets.alike(8, 0).told(7, 6), 8);
        Due.is("5: alone at its TABLE", Due.street(3, 2, 2, Due.NONE).told(0, 6), 1);
        Due.is("5: 0, as it isn't there", Due.street(3, 2, 2, Due.NONE).told(3, 6), 0);
        Due.is("5: 0, as nobody is there", Streets.away(8).told(0, 6), 0);
    }

    private static void toldSounds() {
        StreetTillTen x = new StreetTillTen();
        for (int kind = 0; kind < 6; kind++) {
            x.house(kind, 9);
            x.set(3, kind, kind % 2);
        }
        Due.text(x, "meets 1;fades 1;sounds 0 - 1;");
        Due.text(x, "meets 1;fades 1;sounds 0;");
        Due.text(x, "meets 1;fades 1;sounds 60;");
        Due.text(x, "meets 1;fades 1;sounds 61;");
        int[][] due = {{0, 5, 0, 10, 0, 9}, {0, 5, 0, 10, 0, 9}, {60, 65, 0, 130, 0, 9}, {60, 65, 0, 130, 0, 9}};
        for (int text = 1; text <= 4; text++) {
            x.force(text);
            for (int kind = 0; kind < 6; kind++) {
                Due.is("5: SOUNDS of KIND " + kind + " by TEXT " + text, x.told(kind, 7), due[text - 1][kind]);
            }
        }
        x.set(2, 5, 0);
        Due.is("5: SOUNDS of a BABY, NUMBER 0", x.told(5, 7), 0);
        soundsSeeNoOther();
    }

    private static void soundsSeeNoOther() {
        StreetTillTen x = Streets.alike(3, 99);
        x.set(2, 0, 9);
        x.set(2, 1, 9);
        x.set(2, 2, 9);
        String[] others = {"strength", "other", "apart"};
        for (int i = 0; i < 3; i++) {
            x.force(Due.text(x, "meets 1;fades 1;sounds 7 * (" + others[i] + " = 0);"));
            for (int of = 0; of < 3; of++) {
                Due.is("5: SOUNDS: " + others[i] + " is 0, of " + of, x.told(of, 7), 7);
            }
        }
        x.force(Due.text(x, "meets 1;fades 1;sounds 10 * number + seats;"));
        Due.is("5: SOUNDS: but NUMBER and seats are its own", x.told(2, 7), 60);
        x.set(2, 2, 2);
        Due.is("5: SOUNDS: its own indeed", x.told(2, 7), 23);
    }

    private static void toldStrength() {
        for (int house = 0; house < 8; house++) {
            Due.is("5: STRENGTH with itself is 0, " + house, Streets.alike(8, 99).told(house, 10 + house), 0);
            Due.is("5: with the next one 99, " + house, Streets.alike(8, 99).told(house, 10 + (house + 1) % 8), 99);
        }
    }
}
