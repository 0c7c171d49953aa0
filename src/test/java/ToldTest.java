/** Promises 21 to 27: tells, film, drawn, chance, image, back, count. */
public final class ToldTest {
    public static void main(String[] args) {
        tellsOtherwise();
        tellsKinds();
        tellsNumbers();
        tellsTables();
        tellsTexts();
        tellsLimits();
        tellsBad();
        film();
        drawn();
        chance();
        imageAndBack();
        imageOfNone();
        count();
        Due.end();
    }

    private static void tellsOtherwise() {
        StreetTillTen x = Due.street(0, 0, 1, 0);
        x.bind(0, 1, 7);
        x.bind(0, 2, 30);
        Due.sheet(x, 0, 0, 0, 17, 30, 10);
        Due.is("21: all so", x.tells(0, 0, 0), 0);
        Due.sheet(x, 1, 2, 1, 17, 31, 10);
        Due.is("21: itself and 2", x.tells(1, 0, 0), 5);
        Due.sheet(x, 2, 1, 0, 7, 30, 0);
        Due.is("21: as it is now isn't so", x.tells(2, 0, 0), 10);
        Due.is("21: of another one", x.tells(0, 1, 0), 7);
        Due.is("21: in thought", x.told(0, 11), 7);
        Due.sheet(x, 3, 2, 256, 273, 286, 266);
        Due.is("21: ints are no bytes", x.tells(3, 0, 0), 15);
        Due.sheet(x, 3, 0, 256, 273, 286, 266);
        Due.is("21: bytes are", x.tells(3, 0, 0), 0);
    }

    private static void tellsKinds() {
        StreetTillTen x = Due.street(0, 0, 0, 0);
        Due.sheet(x, 0, 0, 0, 10, 10, 10);
        Due.is("21: HOUSE", x.tells(0, 0, 1), 1);
        Due.sheet(x, 0, 0, 0, 15, 15, 15);
        Due.is("21: LOUD; BAND with NUMBER 0", x.tells(0, 0, 1), 2 + 8);
        x.set(2, 0, 1);
        Due.is("21: LOUD", x.tells(0, 0, 1), 2);
        Due.sheet(x, 0, 0, 0, 16, 16, 16);
        Due.is("21: BAND", x.tells(0, 0, 1), 8);
        Due.sheet(x, 0, 0, 0, 7, 7, 7);
        Due.is("21: OLD", x.tells(0, 0, 1), 4);
        Due.sheet(x, 0, 0, 0, 7, 7, 5);
        Due.is("21: WALLED", x.tells(0, 0, 1), 16);
        Due.sheet(x, 0, 0, 0, 8, 8, 8);
        Due.is("21: BABY", x.tells(0, 0, 1), 32);
        Due.sheet(x, 0, 0, 0, 8, 8, 9);
        Due.is("21: no KIND", x.tells(0, 0, 1), 0);
        Due.sheet(x, 0, 0, 0, 99, 99, 99);
        for (int other = 1; other < 4; other++) {
            x.bind(0, other, 99);
        }
        Due.is("21: any KIND", x.tells(0, 0, 1), 63);
        Due.is("21: KIND is as it was", x.told(0, 4), 0);
    }

    private static void tellsNumbers() {
        StreetTillTen x = new StreetTillTen();
        x.house(3, 2);
        x.house(0, 5);
        x.set(3, 0, 1);
        x.set(3, 1, 1);
        Due.sheet(x, 0, 0, 0, 24);
        Due.is("21: NUMBER of a BAND", x.tells(0, 0, 2), 512);
        Due.sheet(x, 0, 0, 0, 15);
        Due.is("21: NUMBER 0", x.tells(0, 0, 2), 1);
        Due.sheet(x, 0, 0, 0, 25);
        Due.is("21: no NUMBER", x.tells(0, 0, 2), 0);
        Due.sheet(x, 0, 0, 17, 0);
        Due.is("21: any NUMBER of a HOUSE", x.tells(0, 1, 2), 1023);
        x.force(Due.text(x, "meets other;fades 0;sounds 0;"));
        Due.sheet(x, 0, 0, 22, 0);
        Due.is("21: NUMBER as the other one's", x.tells(0, 1, 2), 512);
        Due.is("21: NUMBER is as it was", x.told(1, 2), 5);
    }

    private static void tellsTables() {
        StreetTillTen x = Due.street(Due.NONE, 2, 2, 3);
        Due.sheet(x, 0, 0, 0, 10, 10, 0);
        Due.is("21: TABLE 2", x.tells(0, 0, 3), 4);
        Due.sheet(x, 0, 0, 0, 0, 0, 10);
        Due.is("21: TABLE 3", x.tells(0, 0, 3), 8);
        Due.sheet(x, 0, 0, 0, 0, 0, 0);
        Due.is("21: TABLES 0 and 1", x.tells(0, 0, 3), 3);
        Due.is("21: TABLE is as it was", x.told(0, 3), Due.NONE);
        Due.is("21: nobody is otherwise", x.tells(0, 0, 0), 0);
    }

    private static void tellsTexts() {
        StreetTillTen x = Due.street(0, 0);
        Due.text(x, "meets 6;fades 0;sounds 0;");
        Due.text(x, "meets seats + 3;fades 0;sounds 0;");
        Due.sheet(x, 0, 0, 0, 10);
        Due.is("21: TEXTS 0 and 2", x.tells(0, 0, 4), 5);
        Due.sheet(x, 0, 0, 0, 12);
        Due.is("21: TEXT 1", x.tells(0, 0, 4), 2);
        Due.sheet(x, 0, 0, 0, 0);
        Due.is("21: no TEXT", x.tells(0, 0, 4), 0);
        x.set(3, 0, 1);
        Due.is("21: all TEXTS", x.tells(0, 0, 4), 7);
        Due.is("21: THE RULE is as it was", x.count(5), 0);
    }

    private static void tellsLimits() {
        StreetTillTen x = Due.street(0, 0, 0, 0);
        x.bind(1, 0, 50);
        x.bind(1, 2, 40);
        x.bind(1, 3, 60);
        Due.sheet(x, 0, 0, 20, 0, 19, 99);
        Due.is("21: LIMITS 41 .. 50", x.tells(0, 1, 5), 10);
        Due.is("21: the least", x.tells(0, 1, 6), 41);
        Due.sheet(x, 0, 0, 20, 0, 20, 20);
        Due.is("21: LIMITS 1 .. 40", x.tells(0, 1, 5), 40);
        Due.is("21: the least is 1", x.tells(0, 1, 6), 1);
        Due.sheet(x, 0, 0, 0, 0, 0, 0);
        Due.is("21: LIMITS 61 .. 99", x.tells(0, 1, 5), 39);
        Due.is("21: the least is 61", x.tells(0, 1, 6), 61);
        Due.sheet(x, 0, 0, 0, 0, 20, 20);
        Due.is("21: no LIMIT", x.tells(0, 1, 5), 0);
        Due.is("21: NONE", x.tells(0, 1, 6), Due.NONE);
        Due.sheet(x, 0, 0, 20, 20, 19, 99);
        Due.is("21: it never KNOWS itself", x.tells(0, 1, 5), 0);
        Due.sheet(x, 0, 0, 200, 0, 200, 20);
        Due.is("21: bytes above 127 are below 0", x.tells(0, 1, 5), 10);
        x.set(1, 0, 99);
        Due.is("21: LIMIT as it is does not matter", x.tells(0, 1, 6), 51);
        x.bind(1, 3, 99);
        Due.is("21: up to 99", x.tells(0, 1, 5), 49);
        Due.is("21: LIMIT is as it was", x.told(0, 1), 99);
        x.bind(1, 0, 98);
        x.bind(1, 2, 98);
        Due.sheet(x, 0, 0, 0, 0, 0, 20);
        Due.is("21: 99 alone", x.tells(0, 1, 5), 1);
        Due.is("21: the least is 99", x.tells(0, 1, 6), 99);
    }

    private static void tellsBad() {
        StreetTillTen x = Due.street(0, 0);
        Due.sheet(x, 0, 0, 0, 10);
        Due.sheet(x, 1, 0, 0, 10, 0);
        Due.sheet(x, 2, 0, 0);
        int[][] bad = {{-1, 0, 0}, {4, 0, 0}, {0, -1, 0}, {0, 2, 0}, {0, 0, -1}, {0, 0, 7}, {3, 2, 0}, {3, 0, 7}, {1, 0, 0}, {2, 0, 0}};
        for (int[] b : bad) {
            Due.is("21: tells(" + b[0] + ", " + b[1] + ", " + b[2] + ")", x.tells(b[0], b[1], b[2]), Due.BAD);
        }
        Due.is("21: nothing there", x.tells(3, 0, 0), Due.NOTHING);
        for (int what = 0; what < 7; what++) {
            Due.is("21: size, what " + what, x.tells(1, 0, what), Due.BAD);
        }
    }

    private static void film() {
        StreetTillTen x = Due.street(0, 0, 1, 0);
        x.bind(0, 1, 95);
        x.bind(0, 2, 30);
        x.sheet(2, 2, 40);
        x.cell(2, 3, 77);
        Due.is("22: how many", x.film(2, 0), 4);
        Due.is("22: behind one FEAST", x.tells(2, 0, 0), 0);
        Due.is("22: no FEAST truly", x.told(0, 11), 95);
        Due.is("22: its size", x.cell(2, 4, 0), Due.OUTSIDE);
        Due.is("22: bytes", x.houses(2, 0, 0, 0), 0);
        Due.is("22: no ints", x.houses(2, 2, 0, 0), Due.UNLIKE);
        x.sheet(1, 0, 4);
        x.cell(1, 1, 99);
        x.cell(1, 2, 30);
        x.cell(1, 3, 10);
        Due.is("22: those numbers", x.tells(1, 0, 0), 0);
        Due.is("22: of the other one", x.film(1, 1), 4);
        Due.is("22: so, of the other one", x.tells(1, 1, 0), 0);
        Due.is("22: not of the one", x.tells(1, 0, 0), 7);
        Due.is("22: SHEET -1", x.film(-1, 0), Due.BAD);
        Due.is("22: SHEET 4", x.film(4, 0), Due.BAD);
        Due.is("22: HOUSE -1", x.film(0, -1), Due.BAD);
        Due.is("22: HOUSE 4", x.film(0, 4), Due.BAD);
        Due.is("22: BAD makes no SHEET", x.cell(0, 0, 0), Due.NOTHING);
    }

    /** FRIENDS behind n YEARS, were HOUSES at the TABLES that a SEED draws. */
    private static long friendsOf(int seed, int n, int houses, int limit) {
        long z = seed;
        int[] tables = new int[houses];
        for (int i = 0; i < houses; i++) {
            z = (int) (z * 1103515245L + 12345L);
            tables[i] = (int) ((z & 0xFFFFFFFFL) >> 9 & 3);
        }
        StreetTillTen y = Due.street(tables);
        y.set(1, 0, limit);
        return y.run(n, 0);
    }

    private static void drawn() {
        StreetTillTen x = Due.street(0, 1, 2, 3, 0, Due.NONE, Due.NONE);
        x.set(1, 0, 6);
        int[] seeds = {0, 1, 2, 3, 4, 5, -1, -77, 12345, Integer.MAX_VALUE, Integer.MIN_VALUE};
        for (int seed : seeds) {
            for (int n = 0; n < 3; n++) {
                Due.is("23: drawn(" + seed + ", " + n + ")", x.drawn(seed, n), friendsOf(seed, n, 7, 6));
            }
        }
        Due.is("23: in thought", x.told(4, 3) + x.count(2) + x.street(3), 0);
        Due.is("23: n -1", x.drawn(0, -1), Due.BAD);
        Due.is("23: n 21", x.drawn(0, 21), Due.BAD);
        Due.is("23: n 20", x.drawn(3, 20), friendsOf(3, 20, 7, 6));
    }

    private static void chance() {
        int[] seeds = {1, -9, Integer.MAX_VALUE - 3};
        for (int seed : seeds) {
            StreetTillTen x = seven();
            for (int m = 1; m <= 20; m++) {
                for (int k = 0; k < 8; k++) {
                    chance(x, seed, m, k);
                }
            }
        }
        chanceOfYears();
        StreetTillTen x = seven();
        Due.is("24: none", x.chance(0, 20, 28, 0), 0);
        Due.is("24: none, of 1", x.chance(0, 20, 28, 1), 1);
        Due.is("24: all", x.chance(0, 20, 0, 0), 1);
        Due.is("24: all, of 1", x.chance(0, 20, 0, 1), 1);
        Due.is("24: in thought", x.told(4, 3) + x.count(2) + x.street(3), 0);
        int[][] no = {{0, 0, 0}, {21, 0, 0}, {-1, 0, 0}, {1, -1, 0}, {1, 29, 0}, {1, 0, -1}, {1, 0, 2}};
        for (int[] b : no) {
            Due.is("24: chance(0, " + b[0] + ", " + b[1] + ", " + b[2] + ")", x.chance(0, b[0], b[1], b[2]), Due.NO);
        }
    }

    private static StreetTillTen seven() {
        StreetTillTen x = Due.street(0, 1, 2, 3, 0, Due.NONE, Due.NONE);
        x.set(1, 0, 18);
        return x;
    }

    /** Three YEARS, no fewer and no more: 30 becomes 18, wherever the two sit. */
    private static void chanceOfYears() {
        StreetTillTen x = Due.street(0, 0);
        x.force(Due.text(x, "meets 0;fades 2;sounds 0;"));
        x.bind(0, 1, 30);
        x.set(1, 0, 18);
        Due.is("24: behind three YEARS", x.chance(5, 1, 1, 0), 1);
        x.set(1, 0, 19);
        Due.is("24: not behind two", x.chance(5, 1, 1, 0), 0);
    }

    private static void chance(StreetTillTen x, int seed, int m, int k) {
        int of = 0;
        for (int i = 0; i < m; i++) {
            if (friendsOf(seed + i, 3, 7, 18) >= k) {
                of++;
            }
        }
        int common = m;
        while (of % common != 0 || m % common != 0) {
            common--;
        }
        Due.is("24: above, " + seed + " " + m + " " + k, x.chance(seed, m, k, 0), of / common);
        Due.is("24: below, " + seed + " " + m + " " + k, x.chance(seed, m, k, 1), m / common);
    }

    private static void imageAndBack() {
        StreetTillTen x = Due.street(0, 1, 1);
        x.set(0, 0, 5);
        x.set(1, 0, 30);
        x.set(2, 1, 4);
        x.bind(0, 2, 44);
        Due.text(x, "meets 9;fades 0;sounds 0;");
        x.force(1);
        Due.is("25: HOUSES", x.image(), 3);
        x.house(3, 3);
        x.bind(0, 3, 70);
        x.bind(0, 2, 1);
        x.bind(1, 2, 2);
        x.set(0, 0, 6);
        x.set(1, 0, 31);
        x.set(2, 1, 5);
        x.set(3, 1, 2);
        Due.text(x, "meets 8;fades 0;sounds 0;");
        x.force(2);
        x.feed('m');
        Due.sheet(x, 0, 1, 7);
        for (int i = 0; i < 2; i++) {
            Due.is("26: HOUSES", x.back(), 3);
            Due.is("26: one went", x.count(0), 3);
            Due.is("26: YEAR", x.count(2), 5);
            Due.is("26: LIMIT", x.told(0, 1), 30);
            Due.is("26: NUMBER", x.told(1, 2), 4);
            Due.is("26: TABLE", x.told(1, 3), 1);
            Due.is("26: STRENGTH", x.told(2, 10), 44);
            Due.is("26: STRENGTH of 0", x.told(2, 11), 0);
            Due.is("26: THE RULE", x.count(5), 1);
            Due.is("26: TEXTS stay", x.count(3), 3);
            Due.is("26: THE TAPE stays", x.count(4), 1);
            Due.is("26: SHEETS stay", x.cell(0, 0, 7), 1);
            Due.is("26: one comes", x.house(5, 1), 3);
            Due.is("26: STRENGTH 0", x.told(3, 10), 0);
            Due.is("26: STRENGTH 0 of the other", x.told(0, 13), 0);
            Due.is("26: TABLE NONE", x.told(3, 3), Due.NONE);
            x.bind(3, 0, 50);
            x.set(3, 3, 2);
            x.feast();
            x.year();
        }
        Due.is("25: a new IMAGE", x.image(), 4);
        x.set(0, 0, 0);
        Due.is("26: the new one", x.back(), 4);
        Due.is("26: its YEAR", x.count(2), 6);
        Due.is("26: its KIND", x.told(3, 4), 5);
    }

    private static void imageOfNone() {
        StreetTillTen x = new StreetTillTen();
        Due.is("26: STATE", x.back(), Due.STATE);
        Due.is("25: no HOUSES", x.image(), 0);
        x.house(0, 0);
        x.set(0, 0, 9);
        Due.is("26: all go", x.back(), 0);
        Due.is("26: no HOUSE", x.told(0, 4), Due.BAD);
        Due.is("26: YEAR 0", x.count(2), 0);
    }

    private static void count() {
        StreetTillTen x = Due.street(0, 3, Due.NONE, 3);
        x.set(0, 0, 17);
        Due.text(x, "meets 9;fades 0;sounds 0;");
        Due.text(x, "meets 9;fades 0;sounds 0;");
        x.force(1);
        Due.feed(x, "meet");
        int[] due = {4, 3, 17, 3, 4, 1};
        for (int what = 0; what < 6; what++) {
            Due.is("27: what " + what, x.count(what), due[what]);
        }
        Due.is("27: what -1", x.count(-1), Due.BAD);
        Due.is("27: what 6", x.count(6), Due.BAD);
    }
}
