/** Promises 21 to 27, sentence by sentence: what was told, seeds, IMAGES, how many there are. */
public final class EdgesOfToldTest {
    private static final int LEAST = Integer.MIN_VALUE, MOST = Integer.MAX_VALUE;

    public static void main(String[] args) {
        tellsBad();
        tellsNothing();
        tellsOfUnlikeSize();
        tellsRefusesInOrder();
        tellsIsIdle();
        otherwiseOfEach();
        otherwiseOfItself();
        otherwiseOfSorts();
        kinds();
        numbers();
        tables();
        texts();
        oneFeastNoYear();
        limitsOfNumbers();
        limitsOfStrengths();
        limitsOfAll();
        limitsOfItself();
        filmBad();
        filmOfFewAndAll();
        filmIsTrue();
        drawnBad();
        drawnBounds();
        drawnSeeds();
        drawnTables();
        chanceNo();
        chanceBounds();
        chanceTerms();
        chanceSeeds();
        image();
        imageOfAll();
        backState();
        backGoes();
        backLeaves();
        countBad();
        countOfNoneAndAll();
        Due.end();
    }

    // ---- 21: refusals

    private static void tellsBad() {
        for (int sheet : new int[] {-1, 4, 5, 256, LEAST, MOST}) {
            Due.idle("21: no SHEET " + sheet, y -> y.tells(sheet, 0, 0), Due.BAD);
        }
        for (int house : new int[] {-1, 5, 7, 8, 256, LEAST, MOST}) {
            Due.idle("21: no HOUSE " + house, y -> y.tells(0, house, 0), Due.BAD);
        }
        for (int what : new int[] {-1, 7, 8, 256, LEAST, MOST}) {
            Due.idle("21: what " + what, y -> y.tells(0, 0, what), Due.BAD);
        }
        StreetTillTen none = new StreetTillTen();
        none.sheet(0, 0, 0);
        Due.is("21: no HOUSES, though the size is so", none.tells(0, 0, 0), Due.BAD);
    }

    private static void tellsNothing() {
        for (int what = 0; what < 7; what++) {
            int of = what;
            Due.idle("21: nothing there, what " + what, y -> y.tells(3, 0, of), Due.NOTHING);
        }
    }

    private static void tellsOfUnlikeSize() {
        for (int what = 0; what < 7; what++) {
            int of = what;
            Due.idle("21: 6 items of 5 HOUSES, what " + what, y -> y.tells(1, 0, of), Due.BAD);
            Due.idle("21: 4 items of 5 HOUSES, what " + what, y -> y.tells(2, 0, of), Due.BAD);
        }
        for (int size : new int[] {0, 1, 7, 9, 40}) {
            StreetTillTen x = Streets.alike(8, 0);
            x.sheet(0, 2, size);
            Due.is("21: " + size + " items of 8 HOUSES", x.tells(0, 0, 0), Due.BAD);
        }
        StreetTillTen x = Streets.alike(8, 0);
        x.sheet(0, 2, 8);
        Due.is("21: 8 items of 8 HOUSES", x.tells(0, 0, 0), 254);
    }

    private static void tellsRefusesInOrder() {
        Due.is("21: no HOUSE, ahead of nothing", Streets.busy().tells(3, 5, 0), Due.BAD);
        Due.is("21: what, ahead of nothing", Streets.busy().tells(3, 0, 7), Due.BAD);
        Due.is("21: no SHEET is BAD, not nothing", Streets.busy().tells(4, 0, 0), Due.BAD);
        StreetTillTen x = Streets.busy();
        x.sheet(3, 0, 0);
        Due.is("21: an empty one is not nothing", x.tells(3, 0, 0), Due.BAD);
        Due.is("21: nothing on a full street", Streets.full().tells(3, 7, 6), Due.NOTHING);
    }

    private static void tellsIsIdle() {
        for (int what = 0; what < 7; what++) {
            int of = what;
            StreetTillTen x = Streets.busy();
            int told = x.tells(0, 2, of);
            Due.idle("21: in thought, what " + what, y -> y.tells(0, 2, of), told);
            x.film(0, 3);
            int so = x.tells(0, 3, of);
            Due.is("21: in thought, of a film, what " + what, x.tells(0, 3, of), so);
        }
    }

    // ---- 21: who isn't so

    private static void otherwiseOfEach() {
        for (int house = 0; house < 8; house++) {
            StreetTillTen x = Streets.alike(8, 30);
            for (int other = 0; other < 8; other++) {
                x.film(1, house);
                Due.is("21: a film is so", x.tells(1, house, 0), 0);
                x.cell(1, other, 39);
                Due.is("21: one less isn't, of " + house + " with " + other, x.tells(1, house, 0), 1 << other);
                x.cell(1, other, 41);
                Due.is("21: one more isn't, of " + house + " with " + other, x.tells(1, house, 0), 1 << other);
            }
            x.sheet(1, 0, 8);
            Due.is("21: all but itself aren't, of " + house, x.tells(1, house, 0), 255 - (1 << house));
        }
    }

    private static void otherwiseOfItself() {
        StreetTillTen x = Streets.alike(2, 30);
        Due.sheet(x, 0, 0, 0, 40);
        Due.is("21: with itself 0", x.tells(0, 0, 0), 0);
        Due.sheet(x, 0, 0, 40, 40);
        Due.is("21: with itself not 40", x.tells(0, 0, 0), 1);
        Due.sheet(x, 0, 0, -1, 40);
        Due.is("21: with itself not -1", x.tells(0, 0, 0), 1);
        Due.is("21: of such no KIND", x.tells(0, 0, 1), 0);
        Due.is("21: of such no NUMBER", x.tells(0, 0, 2), 0);
        Due.is("21: of such no TABLE", x.tells(0, 0, 3), 0);
        Due.is("21: of such no TEXT", x.tells(0, 0, 4), 0);
        StreetTillTen one = Due.street(0);
        Due.sheet(one, 0, 0, 0);
        int[] due = {0, 63, 1023, 15, 1, 99, 1};
        for (int what = 0; what < 7; what++) {
            Due.is("21: one alone, what " + what, one.tells(0, 0, what), due[what]);
        }
    }

    private static void otherwiseOfSorts() {
        StreetTillTen x = Streets.alike(2, 99);
        for (int sort = 0; sort < 3; sort++) {
            Due.sheet(x, 0, sort, 0, 99);
            Due.is("21: 99 at most, of sort " + sort, x.tells(0, 0, 0), 0);
            Due.sheet(x, 0, sort, 0, 109);
            Due.is("21: not 109, of sort " + sort, x.tells(0, 0, 0), 2);
            Due.sheet(x, 0, sort, 0, 99 + 256);
            Due.is("21: 99 and 256, of sort " + sort, x.tells(0, 0, 0), sort == 0 ? 0 : 2);
            Due.sheet(x, 0, sort, 0, 99 + 65536);
            Due.is("21: 99 and 65536, of sort " + sort, x.tells(0, 0, 0), sort == 2 ? 2 : 0);
        }
    }

    // ---- 21: of which KIND, NUMBER, TABLE, by which TEXT

    private static void kinds() {
        StreetTillTen x = Due.street(0, 0, 0, 0);
        x.set(2, 0, 1);
        // It MEETS by 5, 10, 2, 11, 2 (0 if APART is 3) or 3; others by 5.
        int[][] told = {{0, 10, 10, 10}, {0, 15, 15, 15}, {0, 7, 7, 7}, {0, 16, 16, 16}, {0, 7, 7, 5}, {0, 8, 8, 8}};
        for (int kind = 0; kind < 6; kind++) {
            Due.sheet(x, 0, 1, told[kind]);
            Due.is("21: KIND " + kind, x.tells(0, 0, 1), 1 << kind);
        }
        Due.sheet(x, 0, 1, 0, 9, 9, 9);
        Due.is("21: no KIND", x.tells(0, 0, 1), 0);
        x.set(3, 0, Due.NONE);
        Due.sheet(x, 0, 1, 0, 0, 0, 0);
        Due.is("21: not there, any KIND", x.tells(0, 0, 1), 63);
        StreetTillTen near = Due.street(0, 0, 0);
        Due.sheet(near, 0, 1, 0, 7, 7);
        Due.is("21: OLD or WALLED", near.tells(0, 0, 1), 4 + 16);
    }

    private static void numbers() {
        StreetTillTen x = Due.street(0, 0);
        x.force(Due.text(x, "meets number;fades 1;sounds 1;"));
        x.set(2, 0, 4);
        for (int number = 0; number < 10; number++) {
            Due.sheet(x, 0, 0, 0, number);
            Due.is("21: NUMBER " + number, x.tells(0, 0, 2), 1 << number);
        }
        Due.sheet(x, 0, 0, 0, 10);
        Due.is("21: no NUMBER 10", x.tells(0, 0, 2), 0);
        x.force(0);
        Due.is("21: any NUMBER", x.tells(0, 0, 2), 1023);
        Due.is("21: NUMBER is 4", x.told(0, 2), 4);
    }

    private static void tables() {
        for (int table = 0; table < 4; table++) {
            StreetTillTen x = Due.street(Due.NONE, table);
            Due.sheet(x, 0, 0, 0, 10);
            Due.is("21: TABLE " + table, x.tells(0, 0, 3), 1 << table);
            Due.sheet(x, 0, 0, 0, 0);
            Due.is("21: not TABLE " + table, x.tells(0, 0, 3), 15 - (1 << table));
            Due.sheet(x, 0, 0, 0, 20);
            Due.is("21: no TABLE", x.tells(0, 0, 3), 0);
        }
        StreetTillTen away = Streets.away(2);
        away.sheet(0, 0, 2);
        Due.is("21: any TABLE, as nobody is there", away.tells(0, 0, 3), 15);
    }

    private static void texts() {
        StreetTillTen x = Due.street(0, 0);
        Due.sheet(x, 0, 0, 0, 10);
        Due.is("21: TEXT 0 alone", x.tells(0, 0, 4), 1);
        for (int text = 1; text < 6; text++) {
            Due.text(x, "meets " + (text + 5) + ";fades 1;sounds 1;");
        }
        for (int text = 0; text < 6; text++) {
            Due.sheet(x, 0, 0, 0, 2 * (text + 5));
            Due.is("21: TEXT " + text + " of six", x.tells(0, 0, 4), 1 << text);
        }
        Due.sheet(x, 0, 0, 0, 9);
        Due.is("21: no TEXT", x.tells(0, 0, 4), 0);
        x.bind(0, 1, 99);
        Due.sheet(x, 0, 0, 0, 99);
        Due.is("21: all six TEXTS", x.tells(0, 0, 4), 63);
        Due.is("21: THE RULE is 0", x.count(5), 0);
    }

    private static void oneFeastNoYear() {
        StreetTillTen x = Streets.alike(2, 50);
        Due.sheet(x, 0, 0, 0, 60);
        Due.is("21: behind one FEAST, no YEAR", x.tells(0, 0, 0), 0);
        x.set(0, 0, 999);
        Due.is("21: in the last YEAR, too", x.tells(0, 0, 0), 0);
        Due.sheet(x, 0, 0, 0, 56);
        Due.is("21: nothing is forgotten", x.tells(0, 0, 0), 2);
    }

    // ---- 21: LIMITS

    private static void limitsOfNumbers() {
        StreetTillTen x = Streets.alike(3, 0);
        x.bind(0, 1, 40);
        x.bind(0, 2, 30);
        int[] numbers = {LEAST, -1, 0, 19, 20, 21, 99, MOST};
        for (int number : numbers) {
            Due.sheet(x, 0, 2, 0, number, 19);
            Due.is("21: LIMITS by " + number, x.tells(0, 0, 5), number >= 20 ? 10 : 59);
            Due.is("21: the least by " + number, x.tells(0, 0, 6), number >= 20 ? 31 : 41);
        }
        x.set(1, 0, 7);
        Due.sheet(x, 0, 2, 0, 20, 19);
        Due.is("21: 20 or more, whatever LIMIT is", x.tells(0, 0, 5), 10);
        x.feast();
        Due.is("21: of now, not behind a FEAST", x.tells(0, 0, 6), 41);
    }

    private static void limitsOfStrengths() {
        int[] strengths = {0, 1, 2, 50, 98, 99};
        for (int strength : strengths) {
            StreetTillTen x = Streets.alike(2, strength);
            Due.sheet(x, 0, 0, 0, 20);
            Due.is("21: LIMITS by which " + strength + " KNOW it", x.tells(0, 0, 5), strength);
            Due.is("21: the least", x.tells(0, 0, 6), strength == 0 ? Due.NONE : 1);
            Due.sheet(x, 0, 0, 0, 19);
            Due.is("21: LIMITS by which " + strength + " don't", x.tells(0, 0, 5), 99 - strength);
            Due.is("21: the least of those", x.tells(0, 0, 6), strength == 99 ? Due.NONE : strength + 1);
        }
    }

    private static void limitsOfAll() {
        StreetTillTen x = Streets.alike(8, 30);
        x.bind(7, 3, 29);
        Due.sheet(x, 0, 0, 20, 20, 20, 19, 20, 20, 20, 0);
        Due.is("21: just 30", x.tells(0, 7, 5), 1);
        Due.is("21: 30 is the least", x.tells(0, 7, 6), 30);
        x.bind(7, 3, 30);
        Due.is("21: none", x.tells(0, 7, 5), 0);
        Due.is("21: the least of none", x.tells(0, 7, 6), Due.NONE);
        Due.is("21: LIMIT is 20", x.told(0, 1), 20);
    }

    /** It is one of those told of, and never KNOWS itself. */
    private static void limitsOfItself() {
        StreetTillTen x = Streets.alike(2, 30);
        Due.sheet(x, 0, 0, 19, 20);
        Due.is("21: itself, 19", x.tells(0, 0, 5), 30);
        Due.sheet(x, 0, 0, 20, 20);
        Due.is("21: itself, 20", x.tells(0, 0, 5), 0);
        Due.is("21: the least, itself 20", x.tells(0, 0, 6), Due.NONE);
    }

    // ---- 22

    private static void filmBad() {
        for (int sheet : new int[] {-1, 4, 5, 256, LEAST, MOST}) {
            Due.idle("22: no SHEET " + sheet, y -> y.film(sheet, 0), Due.BAD);
        }
        for (int house : new int[] {-1, 5, 7, 8, 256, LEAST, MOST}) {
            Due.idle("22: no HOUSE " + house, y -> y.film(0, house), Due.BAD);
            Due.idle("22: no HOUSE " + house + ", a SHEET that is missing", y -> y.film(3, house), Due.BAD);
        }
        Due.is("22: no HOUSES", new StreetTillTen().film(0, 0), Due.BAD);
        Due.idle("22: no HOUSE 8 of eight", Streets::full, y -> y.film(0, 8), Due.BAD);
    }

    private static void filmOfFewAndAll() {
        for (int houses = 1; houses <= 8; houses++) {
            StreetTillTen x = Streets.alike(houses, 30);
            for (int sheet = 0; sheet < 4; sheet++) {
                Due.is("22: how many, of " + houses, x.film(sheet, houses - 1), houses);
                Due.is("22: the last item", x.copy(sheet, houses - 1, sheet, houses - 1, 1), 1);
                Due.is("22: no item behind it", x.copy(sheet, houses, sheet, houses, 1), Due.OUTSIDE);
                Due.is("22: it is so", x.tells(sheet, houses - 1, 0), 0);
            }
        }
        Due.is("22: HOUSE 7 of eight", Streets.full().film(3, 7), 8);
    }

    private static void filmIsTrue() {
        StreetTillTen x = Streets.busy();
        Due.is("22: ints become bytes", x.film(2, 1), 5);
        Due.is("22: they are bytes", x.houses(2, 0, 0, 0), 0);
        Due.is("22: they were a row of other numbers", x.tells(2, 1, 0), 0);
        // 1 with 0: apart; 1 with 4, both at TABLE 2: it MEETS by 12, the BABY by 3.
        Due.sheet(x, 3, 0, 20, 0, 19, 0, 15);
        Due.is("22: those numbers", x.tells(3, 1, 0), 0);
        Due.is("22: no FEAST truly", x.told(1, 14), 0);
        Due.is("22: no YEAR", x.count(2), 6);
        StreetTillTen most = Streets.alike(2, 95);
        most.film(0, 0);
        Due.sheet(most, 1, 0, 0, 99);
        Due.is("22: 99 at most", most.tells(0, 0, 0) + most.tells(1, 0, 0), 0);
        StreetTillTen again = Streets.alike(3, 0);
        again.sheet(0, 2, 40);
        again.cell(0, 0, 77);
        again.film(0, 0);
        Due.is("22: with itself 0, whatever was there", again.tells(0, 0, 0), 0);
        Due.is("22: three items of forty", again.cell(0, 3, 1), Due.OUTSIDE);
    }

    // ---- 23

    private static void drawnBad() {
        for (int n : new int[] {-1, 21, 22, 256, LEAST, MOST}) {
            Due.idle("23: n " + n, y -> y.drawn(5, n), Due.BAD);
        }
        Due.is("23: n 21 without HOUSES", new StreetTillTen().drawn(0, 21), Due.BAD);
        for (int n : new int[] {0, 1, 19, 20}) {
            int friends = Streets.busy().drawn(5, n);
            Due.idle("23: in thought, n " + n, y -> y.drawn(5, n), friends);
            Due.is("23: no HOUSES, n " + n, new StreetTillTen().drawn(5, n), 0);
        }
    }

    /** Strangers that are drawn to one TABLE become FRIENDS behind 4 YEARS; those who aren't part by then. */
    private static void drawnBounds() {
        StreetTillTen x = Streets.alike(8, 20);
        Due.is("23: n 0, as now", x.drawn(5, 0), 28);
        int together = Streets.alike(8, 0).drawn(5, 4);
        Due.is("23: n 20, those together", x.drawn(5, 20), together);
        Due.is("23: n 3 is too few for strangers", Streets.alike(8, 0).drawn(5, 3), 0);
    }

    private static void drawnSeeds() {
        for (int seed : new int[] {LEAST, LEAST + 1, -1, 0, 1, MOST - 1, MOST, 12345, -1103515245}) {
            StreetTillTen x = Due.street(tables(seed, 8));
            Due.is("23: SEED " + seed, Streets.away(8).drawn(seed, 4), x.run(4, 0));
            StreetTillTen y = Due.street(tables(seed, 3));
            Due.is("23: SEED " + seed + ", three HOUSES", Streets.away(3).drawn(seed, 4), y.run(4, 0));
        }
    }

    /** By numbers of any size, kept to 32 bits: (z >>> 9) % 4 are the bits 9 and 10. */
    private static int[] tables(int seed, int houses) {
        java.math.BigInteger all = java.math.BigInteger.ONE.shiftLeft(32);
        java.math.BigInteger z = java.math.BigInteger.valueOf(seed).mod(all);
        int[] tables = new int[houses];
        for (int i = 0; i < houses; i++) {
            z = z.multiply(java.math.BigInteger.valueOf(1103515245)).add(java.math.BigInteger.valueOf(12345)).mod(all);
            tables[i] = (z.testBit(9) ? 1 : 0) + (z.testBit(10) ? 2 : 0);
        }
        return tables;
    }

    /** SEED 0: z is 12345 at HOUSE 0, at TABLE 24 % 4; 12345 * 1103515245 + 12345 wraps at HOUSE 1. */
    private static void drawnTables() {
        int[] tables = tables(0, 2);
        Due.is("23: HOUSE 0 by SEED 0", tables[0], 0);
        int z = 12345 * 1103515245 + 12345;
        Due.is("23: z is below 0 at HOUSE 1", z < 0 ? 1 : 0, 1);
        Due.is("23: HOUSE 1 by SEED 0", tables[1], (z >>> 9) % 4);
        for (int seed = 0; seed < 16; seed++) {
            int[] two = tables(seed, 2);
            Due.is("23: two by SEED " + seed, Due.street(3, 3).drawn(seed, 4), two[0] == two[1] ? 1 : 0);
        }
    }

    // ---- 24

    private static void chanceNo() {
        for (int m : new int[] {-1, 0, 21, 22, 256, LEAST, MOST}) {
            Due.idle("24: m " + m, y -> y.chance(5, m, 1, 0), Due.NO);
        }
        for (int k : new int[] {-1, 29, 30, 256, LEAST, MOST}) {
            Due.idle("24: k " + k, y -> y.chance(5, 1, k, 0), Due.NO);
        }
        for (int part : new int[] {-1, 2, 3, 256, LEAST, MOST}) {
            Due.idle("24: part " + part, y -> y.chance(5, 1, 1, part), Due.NO);
        }
        Due.is("24: m 0 without HOUSES", new StreetTillTen().chance(0, 0, 0, 0), Due.NO);
        Due.idle("24: in thought, above", y -> y.chance(5, 20, 0, 0), 1);
        Due.idle("24: in thought, below", y -> y.chance(5, 20, 28, 1), 1);
    }

    private static void chanceBounds() {
        for (int m = 1; m <= 20; m++) {
            Due.is("24: all of " + m + ", above", new StreetTillTen().chance(5, m, 0, 0), 1);
            Due.is("24: all of " + m + ", below", new StreetTillTen().chance(5, m, 0, 1), 1);
            Due.is("24: none of " + m + ", above", new StreetTillTen().chance(5, m, 1, 0), 0);
            Due.is("24: none of " + m + ", below", new StreetTillTen().chance(5, m, 1, 1), 1);
        }
        // They part by 12 in three YEARS, MEET by 30: 28 FRIENDS, wherever they sit.
        Due.is("24: k 28, all FRIENDS", Streets.alike(8, 32).chance(5, 20, 28, 0), 1);
        Due.is("24: k 28, but for one two", lessOne().chance(5, 1, 28, 0), together(tables(5, 8)) ? 1 : 0);
        Due.is("24: k 27, but for one two", lessOne().chance(5, 20, 27, 0), 1);
        StreetTillTen y = Streets.alike(2, 31);
        y.force(Due.text(y, "meets 0;fades 2;sounds 1;"));
        Due.is("24: three YEARS are too many for 31", y.chance(5, 1, 1, 0), 0);
        y.bind(0, 1, 32);
        Due.is("24: three YEARS leave 20 of 32", y.chance(5, 1, 1, 0), 1);
        y.set(0, 0, 999);
        Due.is("24: past 999", y.chance(5, 1, 1, 0), 1);
    }

    private static StreetTillTen lessOne() {
        StreetTillTen x = Streets.alike(8, 32);
        x.bind(0, 1, 31);
        return x;
    }

    private static boolean together(int[] tables) {
        return tables[0] == tables[1];
    }

    /** Of m seeds so many let two sit together; both parts are as small as can be. */
    private static void chanceTerms() {
        for (int m = 1; m <= 20; m++) {
            int of = 0;
            for (int i = 0; i < m; i++) {
                of += together(tables(40 + i, 2)) ? 1 : 0;
            }
            StreetTillTen x = Streets.alike(2, 2);
            long above = x.chance(40, m, 1, 0);
            long below = x.chance(40, m, 1, 1);
            Due.is("24: " + of + " of " + m, above * m, below * of);
            Due.is("24: lowest terms of " + of + " and " + m, java.math.BigInteger.valueOf(above).gcd(java.math.BigInteger.valueOf(below)).longValue(), 1);
            Due.is("24: below is above 0", below > 0 ? 1 : 0, 1);
        }
    }

    /** Each seed is 1 more; behind the greatest int comes the least. */
    private static void chanceSeeds() {
        for (int seed : new int[] {MOST, MOST - 1, MOST - 10, MOST - 19, LEAST, -10, -1}) {
            for (int m : new int[] {1, 2, 7, 13, 19, 20}) {
                int of = 0;
                for (int i = 0; i < m; i++) {
                    of += together(tables(seed + i, 2)) ? 1 : 0;
                }
                StreetTillTen x = Streets.alike(2, 2);
                Due.is("24: m " + m + " from SEED " + seed, x.chance(seed, m, 1, 0) * m, x.chance(seed, m, 1, 1) * of);
            }
        }
    }

    // ---- 25, 26

    private static void image() {
        for (int houses = 0; houses <= 8; houses++) {
            StreetTillTen x = Streets.away(houses);
            Due.is("25: how many HOUSES, " + houses, x.image(), houses);
            Due.is("26: how many HOUSES, " + houses, x.back(), houses);
            Due.is("26: there are as many", x.count(0), houses);
        }
        StreetTillTen x = Streets.busy();
        Due.is("25: the later one counts", x.image(), 5);
        x.set(0, 0, 77);
        Due.is("26: of the later one", x.back(), 5);
        Due.is("26: YEAR of the later one", x.count(2), 6);
        Due.is("26: and once more", x.back(), 5);
    }

    /** What the IMAGE keeps is seen again, at its bounds. */
    private static void imageOfAll() {
        StreetTillTen x = Streets.full();
        x.set(1, 0, 99);
        x.set(2, 7, 9);
        x.set(3, 7, 3);
        x.bind(7, 6, 99);
        x.force(5);
        x.image();
        x.set(0, 0, 0);
        x.set(1, 0, 1);
        x.set(2, 7, 0);
        x.set(3, 7, Due.NONE);
        x.bind(7, 6, 0);
        x.force(0);
        Due.is("26: eight HOUSES", x.back(), 8);
        Due.is("26: YEAR 999", x.told(0, 0), 999);
        Due.is("26: LIMIT 99", x.told(0, 1), 99);
        Due.is("26: NUMBER 9", x.told(7, 2), 9);
        Due.is("26: TABLE 3", x.told(7, 3), 3);
        Due.is("26: STRENGTH 99", x.told(7, 16), 99);
        Due.is("26: STRENGTH 99, the other way", x.told(6, 17), 99);
        Due.is("26: THE RULE", x.count(5), 5);
        Due.is("26: no room for a HOUSE", x.house(0, 0), Due.FULL);
    }

    private static void backState() {
        Due.is("26: no IMAGE", new StreetTillTen().back(), Due.STATE);
        Due.idle("26: STATE", EdgesOfToldTest::noImage, y -> y.back(), Due.STATE);
        StreetTillTen x = new StreetTillTen();
        x.image();
        Due.is("26: an IMAGE of no HOUSES is one", x.back(), 0);
    }

    private static StreetTillTen noImage() {
        StreetTillTen x = Due.street(0, 1, 1);
        x.bind(0, 1, 40);
        x.set(0, 0, 9);
        Due.feed(x, "meets 1;fades 2");
        Due.sheet(x, 0, 0, 1, 2, 3, 4);
        return x;
    }

    private static void backGoes() {
        StreetTillTen x = Streets.full();
        Due.is("26: five came since, and go", x.back(), 3);
        Due.is("26: three HOUSES", x.count(0), 3);
        for (int house = 3; house < 8; house++) {
            Due.is("26: HOUSE " + house + " went", x.told(house, 2), Due.BAD);
            Due.is("26: nobody has STRENGTH with it", x.told(0, 10 + house), Due.BAD);
            Due.is("26: it can't be bound", x.bind(0, house, 1), Due.BAD);
        }
        Due.is("26: STRENGTH of all twos", x.street(3), 18 + 25 + 19);
        Due.is("26: those who are there", x.count(1), 3);
        for (int house = 3; house < 8; house++) {
            Due.is("26: another one comes", x.house(0, 9), house);
            Due.is("26: STRENGTH 0", x.told(house, 10), 0);
            Due.is("26: TABLE NONE", x.told(house, 3), Due.NONE);
            Due.is("26: its NUMBER", x.told(house, 2), 9);
            Due.is("26: its KIND", x.told(house, 4), 0);
        }
        Due.is("26: and none more", x.house(0, 9), Due.FULL);
    }

    private static void backLeaves() {
        StreetTillTen x = Streets.busy();
        x.back();
        Due.is("26: TEXTS stay", x.count(3), 3);
        Due.is("26: bytes of THE TAPE stay", x.count(4), 15);
        Due.is("26: THE RULE is as it was", x.count(5), 1);
        Due.is("26: SHEETS stay", x.cell(0, 4, 5) + x.cell(1, 5, 7) + x.cell(2, 3, 4), 3);
        Due.is("26: a SHEET that is missing stays so", x.cell(3, 0, 0), Due.NOTHING);
        Due.is("26: a TEXT that came since can be THE RULE", x.force(2), 1);
        Due.feed(x, ";sounds 3;");
        Due.is("26: THE TAPE goes on", x.text(), 3);
    }

    // ---- 27

    private static void countBad() {
        for (int what : new int[] {-1, 6, 7, 256, LEAST, MOST}) {
            Due.idle("27: what " + what, y -> y.count(what), Due.BAD);
        }
        int[] due = {5, 5, 6, 3, 15, 2};
        for (int what = 0; what < 6; what++) {
            int of = what;
            Due.idle("27: what " + what, y -> y.count(of), due[what]);
        }
    }

    private static void countOfNoneAndAll() {
        int[] none = {0, 0, 0, 1, 0, 0};
        int[] all = {8, 5, 999, 6, 160, 2};
        for (int what = 0; what < 6; what++) {
            Due.is("27: at first, what " + what, new StreetTillTen().count(what), none[what]);
            Due.is("27: at last, what " + what, Streets.full().count(what), all[what]);
        }
        Due.is("27: nobody is there", Streets.away(8).count(1), 0);
        Due.is("27: all are", Due.street(0, 1, 2, 3, 0, 1, 2, 3).count(1), 8);
        Due.is("27: THE RULE, the last", lastRule(), 5);
    }

    private static int lastRule() {
        StreetTillTen x = Streets.full();
        x.force(5);
        return x.count(5);
    }
}
