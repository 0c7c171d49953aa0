/** Promises 9 to 15, sentence by sentence: MEETS and FORGETS, a FEAST, a YEAR, who KNOWS whom, YEARS in thought. */
public final class EdgesOfYearsTest {
    private static final int LEAST = Integer.MIN_VALUE, MOST = Integer.MAX_VALUE;

    public static void main(String[] args) {
        asksBad();
        asksIsIdle();
        meetsOfKinds();
        forgetsOfKinds();
        walledIsApart();
        walledInYears();
        feastBounds();
        feastAtTables();
        feastOfFewAndAll();
        feastTold();
        yearBounds();
        yearOfAll();
        yearOfFewAndAll();
        yearState();
        yearTold();
        knowsByLimit();
        streetBad();
        streetOfNone();
        streetOfOne();
        streetOfAll();
        companies();
        quiet();
        way();
        wayBad();
        runBad();
        runBounds();
        runIsAsStreet();
        runPast999();
        takesBad();
        takesBounds();
        takesBehindAYear();
        Due.end();
    }

    private static StreetTillTen kinds(int number) {
        StreetTillTen x = new StreetTillTen();
        for (int kind = 0; kind < 6; kind++) {
            x.house(kind, number);
        }
        return x;
    }

    // ---- 9

    private static void asksBad() {
        for (int house : new int[] {-1, 5, 7, 8, 256, LEAST, MOST}) {
            Due.idle("9: no such one, " + house, y -> y.asks(house, 0, 0), Due.BAD);
            Due.idle("9: no such other, " + house, y -> y.asks(0, house, 1), Due.BAD);
            Due.idle("9: neither, " + house, y -> y.asks(house, house, 1), Due.BAD);
        }
        for (int house = 0; house < 5; house++) {
            int one = house;
            Due.idle("9: one and the same, " + house, y -> y.asks(one, one, 0), Due.BAD);
        }
        for (int what : new int[] {-1, 2, 3, 256, LEAST, MOST}) {
            Due.idle("9: what " + what, y -> y.asks(0, 1, what), Due.BAD);
        }
        Due.is("9: no HOUSES", new StreetTillTen().asks(0, 1, 0), Due.BAD);
        Due.is("9: no HOUSE 8 of eight", Streets.full().asks(0, 8, 0), Due.BAD);
        Due.is("9: HOUSE 7 of eight", Streets.full().asks(0, 7, 0), 6);
    }

    private static void asksIsIdle() {
        Due.idle("9: MEETS", y -> y.asks(0, 1, 0), 6);
        Due.idle("9: MEETS of LOUD", y -> y.asks(1, 0, 0), 12);
        Due.idle("9: FORGETS", y -> y.asks(0, 1, 1), 3);
        Due.idle("9: FORGETS of the last", y -> y.asks(4, 3, 1), 3);
    }

    /** By meets from less than 0 to more than 60; halves are cut. */
    private static void meetsOfKinds() {
        int[] v = {-1, 0, 1, 2, 3, 59, 60, 61};
        int[][] due = {
            {0, 0, 1, 2, 3, 59, 60, 60}, {0, 0, 2, 4, 6, 118, 120, 120}, {0, 0, 0, 1, 1, 29, 30, 30},
            {9, 9, 11, 13, 15, 127, 129, 129}, {0, 0, 0, 1, 1, 29, 30, 30}, {3, 3, 3, 3, 3, 3, 3, 3},
        };
        for (int i = 0; i < v.length; i++) {
            StreetTillTen x = kinds(9);
            x.force(Due.text(x, "meets " + v[i] + ";fades 7;sounds 7;"));
            for (int kind = 0; kind < 6; kind++) {
                Due.is("9: MEETS of KIND " + kind + ", meets " + v[i], x.asks(kind, kind == 5 ? 4 : kind + 1, 0), due[kind][i]);
            }
        }
        StreetTillTen none = kinds(0);
        Due.is("9: MEETS of a BAND, NUMBER 0", none.asks(3, 0, 0), 10);
        none.set(2, 3, 1);
        Due.is("9: MEETS of a BAND, NUMBER 1", none.asks(3, 0, 0), 11);
    }

    private static void forgetsOfKinds() {
        int[] v = {-1, 0, 1, 2, 3, 59, 60, 61};
        int[][] due = {
            {0, 0, 1, 2, 3, 59, 60, 60}, {1, 1, 2, 3, 4, 60, 61, 61}, {0, 0, 0, 1, 1, 29, 30, 30},
            {2, 2, 4, 6, 8, 120, 122, 122}, {0, 0, 0, 1, 1, 29, 30, 30}, {0, 0, 1, 2, 3, 59, 60, 60},
        };
        for (int i = 0; i < v.length; i++) {
            StreetTillTen x = kinds(9);
            x.set(0, 0, 1);
            x.force(Due.text(x, "meets 7;fades " + v[i] + ";sounds 7;"));
            for (int kind = 0; kind < 6; kind++) {
                Due.is("9: FORGETS of KIND " + kind + ", fades " + v[i], x.asks(kind, kind == 5 ? 0 : kind + 1, 1), due[kind][i]);
            }
        }
    }

    private static void walledIsApart() {
        StreetTillTen x = new StreetTillTen();
        for (int i = 0; i < 8; i++) {
            x.house(4, 0);
        }
        for (int one = 0; one < 8; one++) {
            for (int other = 0; other < 8; other++) {
                int apart = one < other ? other - one : one - other;
                if (apart > 0) {
                    Due.is("9: WALLED " + one + " with " + other, x.asks(one, other, 0), apart > 2 ? 0 : 2);
                }
            }
        }
        StreetTillTen old = new StreetTillTen();
        for (int i = 0; i < 8; i++) {
            old.house(2, 0);
        }
        Due.is("9: an OLD one is no WALLED one", old.asks(0, 7, 0), 2);
    }

    private static void walledInYears() {
        int[] years = {0, 1, 2, 3, 997, 998, 999};
        for (int year : years) {
            StreetTillTen x = kinds(0);
            x.set(0, 0, year);
            Due.is("9: WALLED FORGETS in YEAR " + year, x.asks(4, 0, 1), year % 2 == 0 ? 0 : 1);
            Due.is("9: OLD FORGETS in YEAR " + year, x.asks(2, 0, 1), 1);
            Due.is("9: WALLED MEETS in YEAR " + year, x.asks(4, 3, 0), 2);
        }
    }

    // ---- 10

    /** They MEET by 5 and 5. */
    private static void feastBounds() {
        int[] before = {0, 1, 88, 89, 90, 98, 99};
        int[] behind = {10, 11, 98, 99, 99, 99, 99};
        for (int i = 0; i < before.length; i++) {
            StreetTillTen x = Due.street(3, 3);
            x.bind(0, 1, before[i]);
            x.feast();
            Due.is("10: both more than " + before[i], x.told(0, 11), behind[i]);
            Due.is("10: and of the other", x.told(1, 10), behind[i]);
        }
        StreetTillTen most = Due.street(0, 0);
        most.force(Due.text(most, "meets 60;fades 1;sounds 1;"));
        most.feast();
        Due.is("10: 99 at most of 120", most.told(0, 11), 99);
        StreetTillTen none = Due.street(0, 0);
        none.force(Due.text(none, "meets -9;fades 1;sounds 1;"));
        none.bind(0, 1, 7);
        none.feast();
        Due.is("10: never less", none.told(0, 11), 7);
    }

    private static void feastAtTables() {
        for (int one = -1; one < 4; one++) {
            for (int other = -1; other < 4; other++) {
                StreetTillTen x = Due.street(one, other);
                x.feast();
                Due.is("10: at TABLES " + one + " and " + other, x.told(0, 11), one == other && one >= 0 ? 10 : 0);
                Due.is("10: TABLE of the one", x.told(0, 3), one);
                Due.is("10: TABLE of the other", x.told(1, 3), other);
            }
        }
    }

    private static void feastOfFewAndAll() {
        Due.is("10: no HOUSES", new StreetTillTen().feast(), 0);
        Due.is("10: one", Due.street(0).feast(), 0);
        Due.is("10: nobody there", Streets.away(8).feast(), 0);
        StreetTillTen all = Streets.alike(8, 9);
        Due.is("10: 9 and 10 are just short", all.feast(), 0);
        Due.is("10: all are FRIENDS", all.feast(), 28);
        Due.is("10: of all twos", all.street(3), 28 * 29);
        StreetTillTen last = Streets.alike(2, 10);
        last.set(0, 0, 999);
        Due.is("10: a FEAST in the last YEAR", last.feast(), 1);
        Due.is("10: YEAR stays", last.count(2), 999);
        Due.is("10: not there, but FRIENDS", friendsAway().feast(), 1);
    }

    private static StreetTillTen friendsAway() {
        StreetTillTen x = Streets.away(3);
        x.bind(1, 2, 20);
        return x;
    }

    private static void feastTold() {
        StreetTillTen x = Due.street(0, 0, 0, 0);
        for (int i = 0; i < 4; i++) {
            x.set(2, i, i + 1);
        }
        x.force(Due.text(x, "meets (strength = 0) * (number + 2 * other) + (0 < strength) * 30;fades 1;sounds 1;"));
        x.feast();
        int[][] due = {{0, 9, 12, 15}, {9, 0, 15, 18}, {12, 15, 0, 21}, {15, 18, 21, 0}};
        for (int one = 0; one < 4; one++) {
            for (int other = 0; other < 4; other++) {
                Due.is("10: MEETS of the lesser and of the greater, " + one + " " + other, x.told(one, 10 + other), due[one][other]);
            }
        }
    }

    // ---- 11

    /** They FORGET by 2 and 2. */
    private static void yearBounds() {
        int[] before = {0, 1, 3, 4, 5, 24, 99};
        int[] behind = {0, 0, 0, 0, 1, 20, 95};
        for (int i = 0; i < before.length; i++) {
            StreetTillTen x = Due.street(3, 3);
            x.bind(0, 1, before[i]);
            x.year();
            Due.is("11: both less than " + before[i], x.told(0, 11), behind[i]);
            Due.is("11: and of the other", x.told(1, 10), behind[i]);
        }
        StreetTillTen x = Streets.alike(2, 99);
        x.force(Due.text(x, "meets 1;fades 60;sounds 1;"));
        x.year();
        Due.is("11: 0 at least by 120", x.told(0, 11), 0);
        x.force(Due.text(x, "meets 1;fades -9;sounds 1;"));
        x.bind(0, 1, 7);
        x.year();
        Due.is("11: never more", x.told(0, 11), 7);
    }

    private static void yearOfAll() {
        for (int one = -1; one < 4; one++) {
            for (int other = -1; other < 4; other++) {
                StreetTillTen x = Due.street(one, other);
                x.bind(0, 1, 50);
                x.year();
                Due.is("11: at TABLES " + one + " and " + other, x.told(0, 11), 46);
            }
        }
    }

    private static void yearOfFewAndAll() {
        StreetTillTen none = new StreetTillTen();
        Due.is("11: no HOUSES", none.year(), 0);
        Due.is("11: but YEAR is 1 more", none.count(2), 1);
        Due.is("11: one", Due.street(0).year(), 0);
        StreetTillTen all = Streets.alike(8, 27);
        Due.is("11: all are FRIENDS yet", all.year(), 28);
        Due.is("11: none are any more", all.year(), 0);
        Due.is("11: of all twos", all.street(3), 28 * 19);
        Due.is("11: YEAR is 2 more", all.count(2), 2);
    }

    private static void yearState() {
        StreetTillTen x = Streets.alike(2, 50);
        x.set(0, 0, 997);
        Due.is("11: from 997", x.year(), 1);
        Due.is("11: to 998", x.count(2), 998);
        Due.is("11: from 998", x.year(), 1);
        Due.is("11: to 999", x.count(2), 999);
        Due.is("11: YEAR is 999", x.year(), Due.STATE);
        Due.idle("11: STATE", Streets::full, y -> y.year(), Due.STATE);
        StreetTillTen none = new StreetTillTen();
        none.set(0, 0, 999);
        Due.is("11: STATE without HOUSES, too", none.year(), Due.STATE);
        none.set(0, 0, 998);
        Due.is("11: but 998 is fine", none.year(), 0);
    }

    /** The YEAR that passes is told as it is then: the last one, not the next. */
    private static void yearTold() {
        StreetTillTen x = Streets.alike(2, 50);
        x.set(2, 0, 1);
        x.set(2, 1, 3);
        x.force(Due.text(x, "meets 1;fades (year = 7) * (number * 2 + other);sounds 1;"));
        x.set(0, 0, 7);
        x.year();
        Due.is("11: FORGETS of the one and of the other, in YEAR 7", x.told(0, 11), 38);
        x.year();
        Due.is("11: none in YEAR 8", x.told(0, 11), 38);
        StreetTillTen walled = new StreetTillTen();
        walled.house(4, 0);
        walled.house(4, 0);
        walled.bind(0, 1, 50);
        walled.set(0, 0, 998);
        walled.year();
        Due.is("11: WALLED in YEAR 998", walled.told(0, 11), 50);
        walled.set(0, 0, 997);
        walled.year();
        Due.is("11: WALLED in YEAR 997", walled.told(0, 11), 48);
    }

    // ---- 12

    private static void knowsByLimit() {
        for (int limit : new int[] {1, 2, 20, 50, 98, 99}) {
            StreetTillTen x = Streets.away(2);
            x.set(1, 0, limit);
            x.bind(0, 1, limit - 1);
            Due.is("12: no FRIENDS a little below LIMIT " + limit, x.street(0), 0);
            Due.is("12: two COMPANIES", x.street(1), 2);
            Due.is("13: no WAY", x.way(0, 1), Due.NONE);
            x.bind(0, 1, limit);
            Due.is("12: FRIENDS at LIMIT " + limit, x.street(0), 1);
            Due.is("12: one COMPANY", x.street(1), 1);
            Due.is("13: a WAY", x.way(0, 1), 1);
        }
    }

    private static void streetBad() {
        for (int what : new int[] {-1, 6, 7, 256, LEAST, MOST}) {
            Due.idle("12: what " + what, y -> y.street(what), Due.BAD);
        }
        int[] due = {4, 2, 4, 125, 2, 0};
        for (int what = 0; what < 6; what++) {
            int of = what;
            Due.idle("12: what " + what, y -> y.street(of), due[what]);
        }
    }

    private static void streetOfNone() {
        int[] due = {0, 0, 0, 0, 0, Due.NONE};
        for (int what = 0; what < 6; what++) {
            Due.is("12: no HOUSES, what " + what, new StreetTillTen().street(what), due[what]);
        }
    }

    private static void streetOfOne() {
        int[] due = {0, 1, 1, 0, 0, 3};
        for (int what = 0; what < 6; what++) {
            Due.is("12: one HOUSE, what " + what, Due.street(3).street(what), due[what]);
        }
        Due.is("12: one HOUSE that isn't there", Streets.away(1).street(5), Due.NONE);
    }

    private static void streetOfAll() {
        int[] friends = {28, 1, 8, 28 * 99, 1, 0};
        int[] strangers = {0, 8, 1, 28 * 19, 0, 0};
        for (int what = 0; what < 6; what++) {
            Due.is("12: all FRIENDS, what " + what, Streets.alike(8, 99).street(what), friends[what]);
            Due.is("12: all strangers, what " + what, Streets.alike(8, 19).street(what), strangers[what]);
        }
    }

    private static void companies() {
        StreetTillTen x = Streets.away(8);
        int[][] bound = {{7, 0}, {5, 2}, {2, 6}, {6, 4}};
        for (int[] b : bound) {
            x.bind(b[0], b[1], 20);
        }
        Due.is("12: 0 7, 2 4 5 6, 1, 3", x.street(1), 4);
        Due.is("12: the largest", x.street(2), 4);
        Due.is("12: the longest WAY, 5 2 6 4", x.street(4), 3);
        x.bind(7, 1, 20);
        x.bind(1, 3, 20);
        Due.is("12: 0 1 3 7, 2 4 5 6", x.street(1), 2);
        Due.is("12: two as large", x.street(2), 4);
        x.bind(0, 4, 20);
        Due.is("12: all in one", x.street(1), 1);
        Due.is("12: of eight", x.street(2), 8);
        Due.is("12: from end to end", x.street(4), 7);
        x.bind(3, 5, 20);
        Due.is("12: a ring", x.street(4), 4);
    }

    private static void quiet() {
        for (int table = 0; table < 4; table++) {
            Due.is("12: QUIET where one is", Due.street(Due.NONE, table).street(5), table);
        }
        Due.is("12: of four like ones the first", Due.street(3, 2, 1, 0).street(5), 0);
        Due.is("12: of two like ones the first", Due.street(3, 1, Due.NONE).street(5), 1);
        Due.is("12: nobody there, none is QUIET", Streets.away(8).street(5), Due.NONE);
        // DIN: 1 at TABLE 1; 4 at TABLE 0; 1 at TABLE 3; nobody at TABLE 2.
        Due.is("12: not where nobody is", Due.street(0, 0, 1, 3).street(5), 1);
        StreetTillTen x = new StreetTillTen();
        x.house(3, 0);
        x.house(0, 0);
        x.house(2, 0);
        x.house(5, 0);
        x.set(3, 0, 0);
        x.set(3, 1, 1);
        x.set(3, 2, 2);
        x.set(3, 3, 3);
        Due.is("12: DIN 12, 1, 0, 0", x.street(5), 2);
        x.set(3, 2, 0);
        Due.is("12: DIN 0 at TABLE 3", x.street(5), 3);
        x.set(2, 3, 1);
        Due.is("12: DIN 1 and 1", x.street(5), 1);
        x.set(2, 3, 2);
        Due.is("12: DIN 1 and 2", x.street(5), 1);
        x.set(3, 1, 3);
        Due.is("12: DIN 14 and 4", x.street(5), 3);
        x.set(3, 3, Due.NONE);
        Due.is("12: those who aren't there make none", x.street(5), 3);
        StreetTillTen loud = Due.street(0, 0, 0, 0, 0, 0, 0, 1);
        loud.force(Due.text(loud, "meets 1;fades 1;sounds 1 + 50 * (seats = 1);"));
        Due.is("12: seven by 1, one by 51", loud.street(5), 0);
        loud.force(Due.text(loud, "meets 1;fades 1;sounds 1 + 5 * (seats = 1);"));
        Due.is("12: seven by 1, one by 6", loud.street(5), 1);
    }

    // ---- 13

    private static void way() {
        StreetTillTen x = Streets.away(8);
        for (int i = 0; i < 7; i++) {
            x.bind(i, i + 1, 20);
        }
        for (int one = 0; one < 8; one++) {
            for (int other = 0; other < 8; other++) {
                Due.is("13: from " + one + " to " + other, x.way(one, other), one < other ? other - one : one - other);
            }
        }
        x.bind(3, 4, 19);
        Due.is("13: none across", x.way(0, 7), Due.NONE);
        Due.is("13: none back", x.way(4, 3), Due.NONE);
        Due.is("13: to itself, always", x.way(7, 7), 0);
        Due.is("13: all KNOW each other", Streets.alike(8, 20).way(7, 0), 1);
        Due.is("13: alone, to itself", Streets.away(1).way(0, 0), 0);
    }

    private static void wayBad() {
        for (int house : new int[] {-1, 5, 7, 8, 256, LEAST, MOST}) {
            Due.idle("13: from " + house, y -> y.way(house, 0), Due.BAD);
            Due.idle("13: to " + house, y -> y.way(0, house), Due.BAD);
            Due.idle("13: from and to " + house, y -> y.way(house, house), Due.BAD);
        }
        Due.idle("13: WAY", y -> y.way(3, 1), 2);
        Due.idle("13: WAY of one that KNOWS nobody", y -> y.way(4, 0), Due.NONE);
        Due.is("13: no HOUSES", new StreetTillTen().way(0, 0), Due.BAD);
        Due.is("13: no HOUSE 8 of eight", Streets.full().way(8, 8), Due.BAD);
        Due.is("13: HOUSE 7 of eight", Streets.full().way(7, 7), 0);
    }

    // ---- 14

    private static void runBad() {
        for (int n : new int[] {-1, 21, 22, 256, LEAST, MOST}) {
            Due.idle("14: n " + n, y -> y.run(n, 0), Due.BAD);
        }
        for (int what : new int[] {-1, 5, 6, 256, LEAST, MOST}) {
            Due.idle("14: what " + what, y -> y.run(1, what), Due.BAD);
        }
        Due.idle("14: neither", y -> y.run(21, 5), Due.BAD);
    }

    private static void runBounds() {
        StreetTillTen x = Due.street(0, 0);
        x.force(Due.text(x, "meets 1;fades 0;sounds 1;"));
        Due.is("14: 0 YEARS", x.run(0, 3), 0);
        Due.is("14: 1 YEAR", x.run(1, 3), 2);
        Due.is("14: 19 YEARS", x.run(19, 3), 38);
        Due.is("14: 20 YEARS", x.run(20, 3), 40);
        Due.is("14: LIMIT is reached in YEAR 10", x.run(10, 0), 1);
        Due.is("14: not in YEAR 9", x.run(9, 0), 0);
        for (int what = 0; what < 5; what++) {
            int of = what;
            Due.is("14: no HOUSES, what " + what, new StreetTillTen().run(20, what), 0);
            Due.idle("14: in thought, what " + what, y -> y.run(0, of), Streets.busy().street(what));
            Due.idle("14: 20 YEARS in thought, what " + what, y -> y.run(20, of), behind(20, what));
        }
        // The FEAST is first: what it brings is forgotten the same YEAR.
        StreetTillTen most = Streets.alike(2, 99);
        Due.is("14: 99, less 4", most.run(1, 3), 95);
        Due.is("14: 99 again, less 4", most.run(20, 3), 95);
    }

    /** What n FEASTS and YEARS, truly, come to. */
    private static int behind(int n, int what) {
        StreetTillTen x = Streets.busy();
        for (int i = 0; i < n; i++) {
            x.feast();
            x.year();
        }
        return x.street(what);
    }

    private static void runIsAsStreet() {
        for (int n = 0; n <= 20; n++) {
            for (int what = 0; what < 5; what++) {
                Due.is("14: " + n + " YEARS, what " + what, Streets.busy().run(n, what), behind(n, what));
            }
        }
    }

    private static void runPast999() {
        StreetTillTen x = Due.street(0, 0);
        x.force(Due.text(x, "meets year=1018;fades 0;sounds 1;"));
        x.set(0, 0, 999);
        Due.is("14: YEAR 1018 is the last of 20 from 999 on", x.run(20, 3), 2);
        Due.is("14: it isn't reached in 19", x.run(19, 3), 0);
        Due.is("14: YEAR is still 999", x.count(2), 999);
        x.force(Due.text(x, "meets year=1019;fades 0;sounds 1;"));
        Due.is("14: no FEAST in YEAR 1019", x.run(20, 3), 0);
        x.force(Due.text(x, "meets year=999;fades 0;sounds 1;"));
        Due.is("14: one FEAST in YEAR 999", x.run(20, 3), 2);
        Due.idle("14: in thought from 999 on", Streets::full, y -> y.run(20, 0), Streets.full().run(20, 0));
        StreetTillTen walled = new StreetTillTen();
        walled.house(4, 0);
        walled.house(4, 0);
        walled.bind(0, 1, 60);
        walled.set(0, 0, 999);
        Due.is("14: WALLED FORGETS in YEAR 999", walled.run(1, 3), 58);
        Due.is("14: WALLED doesn't in YEAR 1000", walled.run(2, 3), 58);
        Due.is("14: WALLED does in YEAR 1001", walled.run(3, 3), 56);
    }

    // ---- 15

    private static void takesBad() {
        for (int k : new int[] {-1, 29, 30, 256, LEAST, MOST}) {
            Due.idle("15: k " + k, y -> y.takes(k), Due.BAD);
        }
        Due.idle("15: k 0", y -> y.takes(0), 0);
        Due.idle("15: k 4, now", y -> y.takes(4), 0);
        Due.idle("15: k 28", y -> y.takes(28), Due.NONE);
        Due.is("15: no HOUSES, k 0", new StreetTillTen().takes(0), 0);
        Due.is("15: no HOUSES, k 1", new StreetTillTen().takes(1), Due.NONE);
        Due.is("15: no HOUSES, k 29", new StreetTillTen().takes(29), Due.BAD);
        Due.is("15: eight, k 28", Streets.alike(8, 0).takes(28), 4);
        Due.is("15: eight that are, k 28", Streets.alike(8, 20).takes(28), 0);
        Due.is("15: seven, k 21", Streets.alike(7, 0).takes(21), 4);
        Due.is("15: seven, k 22", Streets.alike(7, 0).takes(22), Due.NONE);
    }

    private static void takesBounds() {
        StreetTillTen x = Due.street(0, 0);
        x.force(Due.text(x, "meets 2;fades 0;sounds 1;"));
        int[] limits = {1, 4, 5, 8, 9, 76, 77, 80, 81, 84, 85};
        int[] due = {1, 1, 2, 2, 3, 19, 20, 20, Due.NONE, Due.NONE, Due.NONE};
        for (int i = 0; i < limits.length; i++) {
            x.set(1, 0, limits[i]);
            Due.is("15: by LIMIT " + limits[i], x.takes(1), due[i]);
        }
        x.set(1, 0, 80);
        x.set(0, 0, 999);
        Due.is("15: past 999", x.takes(1), 20);
        Due.is("15: YEAR is still 999", x.count(2), 999);
        Due.is("15: STRENGTH is still 0", x.told(0, 11), 0);
    }

    /** FRIENDS count behind a YEAR, not behind its FEAST; and the first YEAR counts, though they part again. */
    private static void takesBehindAYear() {
        StreetTillTen x = Due.street(0, 0);
        x.set(1, 0, 96);
        Due.is("15: 99 behind the FEAST alone", x.takes(1), Due.NONE);
        x.force(Due.text(x, "meets (year < 3) * 5;fades (2 < year) * 60;sounds 1;"));
        x.set(1, 0, 30);
        Due.is("15: in YEAR 3, though none are in YEAR 4", x.takes(1), 3);
        Due.is("15: none behind 4", x.run(4, 0), 0);
        x.set(1, 0, 31);
        Due.is("15: never", x.takes(1), Due.NONE);
        StreetTillTen y = Due.street(0, 1);
        y.bind(0, 1, 20);
        Due.is("15: now, though not a YEAR later", y.takes(1), 0);
        Due.is("15: not a YEAR later", y.run(1, 0), 0);
    }
}
