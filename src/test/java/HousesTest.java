/** Promises 1 to 5: a new object, set, house, bind, told. */
public final class HousesTest {
    public static void main(String[] args) {
        newObject();
        setOfTheStreet();
        setOfAHouse();
        setBad();
        house();
        bind();
        bindBad();
        told();
        toldSounds();
        toldBad();
        Due.end();
    }

    private static void newObject() {
        StreetTillTen x = new StreetTillTen();
        Due.is("1: HOUSES", x.count(0), 0);
        Due.is("1: at a TABLE", x.count(1), 0);
        Due.is("1: YEAR", x.told(0, 0), 0);
        Due.is("1: LIMIT", x.told(0, 1), 20);
        Due.is("1: no HOUSE 0", x.told(0, 2), Due.BAD);
        Due.is("1: TEXTS", x.count(3), 1);
        Due.is("1: THE TAPE", x.count(4), 0);
        Due.is("1: THE RULE", x.count(5), 0);
        Due.is("1: no IMAGE", x.back(), Due.STATE);
        for (int i = 0; i < 4; i++) {
            Due.is("1: SHEET " + i + " is missing", x.cell(i, 0, 0), Due.NOTHING);
        }
    }

    private static void setOfTheStreet() {
        StreetTillTen x = new StreetTillTen();
        Due.is("2: YEAR, of no matter", x.set(0, -5, 7), 0);
        Due.is("2: YEAR was", x.set(0, 99, 999), 7);
        Due.is("2: YEAR again", x.set(0, 0, 0), 999);
        Due.is("2: LIMIT, of no matter", x.set(1, -5, 1), 20);
        Due.is("2: LIMIT was", x.set(1, 99, 99), 1);
        Due.is("2: LIMIT again", x.set(1, 0, 50), 99);
        Due.is("2: YEAR is", x.told(0, 0), 0);
        Due.is("2: LIMIT is", x.told(0, 1), 50);
    }

    private static void setOfAHouse() {
        StreetTillTen x = new StreetTillTen();
        x.house(0, 4);
        x.house(0, 6);
        Due.is("2: NUMBER was", x.set(2, 1, 9), 6);
        Due.is("2: NUMBER of that one alone", x.told(0, 2), 4);
        Due.is("2: NUMBER again", x.set(2, 1, 0), 9);
        Due.is("2: TABLE was NONE", x.set(3, 0, 3), Due.NONE);
        Due.is("2: TABLE was 3", x.set(3, 0, 0), 3);
        Due.is("2: TABLE to NONE", x.set(3, 0, Due.NONE), 0);
        Due.is("2: TABLE is NONE", x.told(0, 3), Due.NONE);
    }

    private static void setBad() {
        StreetTillTen x = Due.street(2);
        x.set(2, 0, 5);
        int[][] bad = {
            {-1, 0, 1}, {4, 0, 1}, {0, 0, -1}, {0, 0, 1000}, {1, 0, 0}, {1, 0, 100}, {2, 0, -1}, {2, 0, 10},
            {3, 0, -2}, {3, 0, 4}, {2, 1, 1}, {2, -1, 1}, {3, 1, 1}, {3, -1, 1},
            {Integer.MIN_VALUE, 0, 1}, {2, Integer.MAX_VALUE, 1}, {0, 0, Integer.MIN_VALUE},
        };
        for (int[] b : bad) {
            Due.is("2: set(" + b[0] + ", " + b[1] + ", " + b[2] + ")", x.set(b[0], b[1], b[2]), Due.BAD);
        }
        Due.is("2: BAD changes no YEAR", x.told(0, 0), 0);
        Due.is("2: BAD changes no LIMIT", x.told(0, 1), 20);
        Due.is("2: BAD changes no NUMBER", x.told(0, 2), 5);
        Due.is("2: BAD changes no TABLE", x.told(0, 3), 2);
    }

    private static void house() {
        StreetTillTen x = new StreetTillTen();
        Due.is("3: KIND -1", x.house(-1, 0), Due.BAD);
        Due.is("3: KIND 6", x.house(6, 0), Due.BAD);
        Due.is("3: NUMBER -1", x.house(0, -1), Due.BAD);
        Due.is("3: NUMBER 10", x.house(0, 10), Due.BAD);
        Due.is("3: none came", x.count(0), 0);
        for (int i = 0; i < 8; i++) {
            Due.is("3: HOUSE " + i, x.house(i % 6, 9 - i), i);
        }
        Due.is("3: FULL", x.house(0, 0), Due.FULL);
        Due.is("3: BAD ahead of FULL", x.house(6, 0), Due.BAD);
        for (int i = 0; i < 8; i++) {
            Due.is("3: KIND of " + i, x.told(i, 4), i % 6);
            Due.is("3: NUMBER of " + i, x.told(i, 2), 9 - i);
            Due.is("3: TABLE of " + i, x.told(i, 3), Due.NONE);
            Due.is("3: STRENGTH of " + i, x.told(i, 10 + (i + 1) % 8), 0);
        }
    }

    private static void bind() {
        StreetTillTen x = Due.street(0, 0, 0);
        Due.is("4: was 0", x.bind(0, 2, 99), 0);
        Due.is("4: was 99, from the other side", x.bind(2, 0, 1), 99);
        Due.is("4: of the one", x.told(0, 12), 1);
        Due.is("4: of the other", x.told(2, 10), 1);
        Due.is("4: not of others", x.told(0, 11), 0);
        Due.is("4: to 0", x.bind(0, 2, 0), 1);
    }

    private static void bindBad() {
        StreetTillTen x = Due.street(0, 0);
        x.bind(0, 1, 5);
        int[][] bad = {
            {0, 0, 1}, {1, 1, 1}, {2, 2, 1}, {0, 2, 1}, {2, 0, 1}, {-1, 0, 1}, {0, -1, 1}, {0, 1, -1}, {0, 1, 100},
            {0, Integer.MAX_VALUE, 1}, {Integer.MIN_VALUE, 1, 1},
        };
        for (int[] b : bad) {
            Due.is("4: bind(" + b[0] + ", " + b[1] + ", " + b[2] + ")", x.bind(b[0], b[1], b[2]), Due.BAD);
        }
        Due.is("4: BAD changes nothing", x.told(0, 11), 5);
        Due.is("4: nor of itself", x.told(0, 10), 0);
    }

    private static void told() {
        StreetTillTen x = Due.street(1, 1, 0, Due.NONE, Due.NONE);
        x.set(0, 0, 33);
        x.set(1, 0, 40);
        x.bind(0, 1, 40);
        x.bind(0, 3, 39);
        x.bind(4, 0, 99);
        Due.is("5: YEAR, of no matter", x.told(77, 0), 33);
        Due.is("5: LIMIT, of no matter", x.told(-1, 1), 40);
        Due.is("5: KNOWS at LIMIT and above", x.told(0, 5), 2);
        Due.is("5: KNOWS one", x.told(1, 5), 1);
        Due.is("5: KNOWS nobody a LIMIT short", x.told(3, 5), 0);
        Due.is("5: at its TABLE", x.told(0, 6), 2);
        Due.is("5: alone at its TABLE", x.told(2, 6), 1);
        Due.is("5: not there", x.told(3, 6), 0);
        Due.is("5: STRENGTH with itself", x.told(3, 13), 0);
        Due.is("5: STRENGTH", x.told(0, 14), 99);
        Due.is("5: STRENGTH below LIMIT", x.told(3, 10), 39);
    }

    private static void toldSounds() {
        StreetTillTen x = new StreetTillTen();
        for (int kind = 0; kind < 6; kind++) {
            x.house(kind, 7);
            x.set(3, kind, 2);
        }
        int[] loud = {6, 11, 0, 22, 0, 7};
        int[] away = {0, 5, 0, 10, 0, 7};
        for (int kind = 0; kind < 6; kind++) {
            Due.is("5: SOUNDS of KIND " + kind, x.told(kind, 7), loud[kind]);
        }
        for (int kind = 0; kind < 6; kind++) {
            x.set(3, kind, Due.NONE);
        }
        for (int kind = 0; kind < 6; kind++) {
            Due.is("5: SOUNDS, not there, of KIND " + kind, x.told(kind, 7), away[kind]);
        }
        x.set(0, 0, 9);
        x.bind(0, 1, 50);
        x.force(Due.text(x, "meets 0;fades 0;sounds 40 + year + number - strength - other - apart;"));
        Due.is("5: SOUNDS see no other one", x.told(0, 7), 56);
        x.force(Due.text(x, "meets 0;fades 0;sounds 61;"));
        Due.is("5: SOUNDS 60 at most", x.told(0, 7), 60);
        Due.is("5: SOUNDS of BAND above 60", x.told(3, 7), 130);
        x.force(Due.text(x, "meets 0;fades 0;sounds -1;"));
        Due.is("5: SOUNDS 0 at least", x.told(1, 7), 5);
    }

    private static void toldBad() {
        StreetTillTen x = Due.street(0, 0);
        for (int what = 2; what < 18; what++) {
            if (what != 10 && what != 11) {
                Due.is("5: no HOUSE 2, what " + what, x.told(2, what), Due.BAD);
            }
        }
        Due.is("5: no HOUSE 2 with 0", x.told(2, 10), Due.BAD);
        Due.is("5: no HOUSE -1", x.told(-1, 4), Due.BAD);
        for (int what : new int[] {-1, 8, 9, 12, 17, 18, Integer.MIN_VALUE, Integer.MAX_VALUE}) {
            Due.is("5: what " + what, x.told(0, what), Due.BAD);
        }
    }
}
