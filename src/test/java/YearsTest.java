/** Promises 9 to 15: asks, feast, year, street, way, run, takes. */
public final class YearsTest {
    public static void main(String[] args) {
        asks();
        asksOfWalled();
        asksBad();
        feast();
        feastToldAsItIs();
        year();
        yearOfWalled();
        yearState();
        street();
        quiet();
        way();
        run();
        runPast999();
        takes();
        Due.end();
    }

    /** A HOUSE of each KIND, NUMBER 7, all at TABLE 1. */
    private static StreetTillTen kinds() {
        StreetTillTen x = new StreetTillTen();
        for (int kind = 0; kind < 6; kind++) {
            x.house(kind, 7);
            x.set(3, kind, 1);
        }
        return x;
    }

    private static void asks() {
        StreetTillTen x = kinds();
        int[] meets = {5, 10, 2, 17, 2, 3};
        int[] fades = {2, 3, 1, 6, 0, 2};
        for (int kind = 0; kind < 6; kind++) {
            int other = kind == 5 ? 4 : kind + 1;
            Due.is("9: MEETS of KIND " + kind, x.asks(kind, other, 0), meets[kind]);
            Due.is("9: FORGETS of KIND " + kind, x.asks(kind, other, 1), fades[kind]);
        }
        Due.text(x, "meets 0-1;fades 0-1;sounds 0;");
        Due.text(x, "meets 99;fades 99;sounds 0;");
        int[] least = {0, 0, 0, 7, 0, 3};
        int[] most = {60, 120, 30, 127, 30, 3};
        int[] leastFades = {0, 1, 0, 2, 0, 0};
        int[] mostFades = {60, 61, 30, 122, 0, 60};
        for (int kind = 0; kind < 6; kind++) {
            int other = kind == 5 ? 4 : kind + 1;
            x.force(1);
            Due.is("9: least MEETS of KIND " + kind, x.asks(kind, other, 0), least[kind]);
            Due.is("9: least FORGETS of KIND " + kind, x.asks(kind, other, 1), leastFades[kind]);
            x.force(2);
            Due.is("9: most MEETS of KIND " + kind, x.asks(kind, other, 0), most[kind]);
            Due.is("9: most FORGETS of KIND " + kind, x.asks(kind, other, 1), mostFades[kind]);
        }
    }

    private static void asksOfWalled() {
        StreetTillTen x = kinds();
        Due.is("9: WALLED, APART 1 on", x.asks(4, 5, 0), 2);
        Due.is("9: WALLED, APART 2", x.asks(4, 2, 0), 2);
        Due.is("9: WALLED, APART 3", x.asks(4, 1, 0), 0);
        Due.is("9: WALLED, APART 4", x.asks(4, 0, 0), 0);
        Due.is("9: with WALLED, APART 4", x.asks(0, 4, 0), 5);
        Due.is("9: OLD, APART 3", x.asks(2, 5, 0), 2);
        x.house(4, 0);
        x.house(0, 0);
        Due.is("9: not at one TABLE", x.asks(6, 7, 0), 2);
        x.set(0, 0, 1);
        Due.is("9: WALLED FORGETS in an odd YEAR", x.asks(4, 0, 1), 1);
        x.set(0, 0, 2);
        Due.is("9: WALLED FORGETS in an even YEAR", x.asks(4, 0, 1), 0);
    }

    private static void asksBad() {
        StreetTillTen x = Due.street(0, 0);
        int[][] bad = {{0, 0, 0}, {1, 1, 1}, {0, 2, 0}, {2, 0, 0}, {-1, 0, 0}, {0, -1, 0}, {0, 1, 2}, {0, 1, -1}};
        for (int[] b : bad) {
            Due.is("9: asks(" + b[0] + ", " + b[1] + ", " + b[2] + ")", x.asks(b[0], b[1], b[2]), Due.BAD);
        }
        Due.is("9: the rest is fine", x.asks(1, 0, 0), 5);
    }

    private static void feast() {
        StreetTillTen x = Due.street(0, 0, 1, Due.NONE, Due.NONE, 1, 0);
        x.bind(0, 1, 10);
        x.bind(0, 6, 9);
        x.bind(2, 5, 95);
        x.bind(3, 4, 30);
        Due.is("10: FRIENDS", x.feast(), 3);
        Due.is("10: both MEET", x.told(0, 11), 20);
        Due.is("10: just short", x.told(0, 16), 19);
        Due.is("10: others at that TABLE", x.told(1, 16), 10);
        Due.is("10: 99 at most", x.told(2, 15), 99);
        Due.is("10: no TABLE is no TABLE", x.told(3, 14), 30);
        Due.is("10: not across TABLES", x.told(0, 12), 0);
        Due.is("10: YEAR stays", x.count(2), 0);
        Due.is("10: FRIENDS again", x.feast(), 5);
        Due.is("10: not behind itself", x.told(0, 10), 0);
    }

    private static void feastToldAsItIs() {
        StreetTillTen x = Due.street(0, 0, 0);
        x.set(2, 1, 3);
        x.set(2, 2, 8);
        x.force(Due.text(x, "meets (strength < 2) * other + (strength = 3) * 50;fades strength;sounds 0;"));
        x.feast();
        Due.is("10: both told ahead of what they become", x.told(0, 11), 3);
        Due.is("10: of 1 and 2", x.told(1, 12), 11);
        x.bind(0, 1, 40);
        x.bind(1, 2, 60);
        x.year();
        Due.is("11: both told ahead of what they become", x.told(0, 11), 0);
        x.force(Due.text(x, "meets 0;fades (strength = 50) * 7;sounds 0;"));
        x.bind(0, 1, 50);
        x.year();
        Due.is("11: FORGETS of both, as it is then", x.told(0, 11), 36);
    }

    private static void year() {
        StreetTillTen x = Due.street(0, 0, 1, Due.NONE);
        x.bind(0, 1, 24);
        x.bind(0, 2, 23);
        x.bind(2, 3, 3);
        Due.is("11: FRIENDS", x.year(), 1);
        Due.is("11: YEAR is 1 more", x.count(2), 1);
        Due.is("11: both FORGET", x.told(0, 11), 20);
        Due.is("11: at unlike TABLES, too", x.told(0, 12), 19);
        Due.is("11: 0 at least", x.told(2, 13), 0);
        Due.is("11: FRIENDS again", x.year(), 0);
        Due.is("11: YEAR is 2", x.count(2), 2);
    }

    private static void yearOfWalled() {
        StreetTillTen x = new StreetTillTen();
        x.house(4, 0);
        x.house(4, 0);
        x.bind(0, 1, 50);
        x.year();
        Due.is("11: told ahead of the new YEAR", x.told(0, 11), 50);
        x.year();
        Due.is("11: of YEAR 1", x.told(0, 11), 48);
    }

    private static void yearState() {
        StreetTillTen x = Due.street(0, 0);
        x.bind(0, 1, 50);
        x.set(0, 0, 998);
        Due.is("11: the last", x.year(), 1);
        Due.is("11: STATE", x.year(), Due.STATE);
        Due.is("11: STATE changes no YEAR", x.count(2), 999);
        Due.is("11: STATE changes no STRENGTH", x.told(0, 11), 46);
    }

    private static void street() {
        StreetTillTen x = Due.street(0, 0, 0, 0, 0, 0, 0);
        x.bind(0, 1, 20);
        x.bind(1, 2, 21);
        x.bind(2, 3, 99);
        x.bind(1, 3, 19);
        x.bind(5, 6, 20);
        Due.is("12: FRIENDS", x.street(0), 4);
        Due.is("12: COMPANIES", x.street(1), 3);
        Due.is("12: the largest", x.street(2), 4);
        Due.is("12: STRENGTH", x.street(3), 179);
        Due.is("12: the longest WAY", x.street(4), 3);
        Due.is("12: QUIET", x.street(5), 0);
        x.bind(0, 3, 20);
        Due.is("12: a shorter WAY", x.street(4), 2);
        x.bind(0, 2, 20);
        x.bind(1, 3, 20);
        Due.is("12: all KNOW each other", x.street(4), 1);
        Due.is("12: what -1", x.street(-1), Due.BAD);
        Due.is("12: what 6", x.street(6), Due.BAD);
        StreetTillTen none = new StreetTillTen();
        int[] due = {0, 0, 0, 0, 0, Due.NONE};
        for (int what = 0; what < 6; what++) {
            Due.is("12: no HOUSES, what " + what, none.street(what), due[what]);
        }
        Due.is("12: one alone", Due.street(0).street(2), 1);
        StreetTillTen row = Due.street(0, 0, 0, 0, 0, 0, 0, 0);
        for (int i = 0; i < 7; i++) {
            row.bind(i, i + 1, 20);
        }
        Due.is("12: the longest WAY that can be", row.street(4), 7);
        Due.is("12: all in one", row.street(2), 8);
        Due.is("13: from end to end", row.way(7, 0), 7);
    }

    private static void quiet() {
        StreetTillTen x = Due.street(3, 3, 2, 2, Due.NONE);
        Due.is("12: the first of like ones", x.street(5), 2);
        x.set(3, 4, 2);
        Due.is("12: less DIN", x.street(5), 3);
        x.set(3, 4, 0);
        Due.is("12: one alone", x.street(5), 0);
        x.house(2, 0);
        x.house(2, 0);
        x.set(3, 5, 1);
        x.set(3, 6, 1);
        Due.is("12: OLD ones are quiet", x.street(5), 1);
        x.set(3, 6, 0);
        x.house(1, 0);
        x.set(3, 7, 1);
        Due.is("12: LOUD is not", x.street(5), 0);
    }

    private static void way() {
        StreetTillTen x = Due.street(0, 0, 0, 0, 0);
        x.bind(0, 3, 20);
        x.bind(3, 1, 20);
        x.bind(1, 4, 20);
        x.bind(0, 4, 19);
        Due.is("13: to itself", x.way(2, 2), 0);
        Due.is("13: to one it KNOWS", x.way(3, 1), 1);
        Due.is("13: by one", x.way(1, 0), 2);
        Due.is("13: by two", x.way(0, 4), 3);
        Due.is("13: NONE", x.way(0, 2), Due.NONE);
        Due.is("13: NONE back", x.way(2, 0), Due.NONE);
        int[][] bad = {{0, 5}, {5, 0}, {-1, 0}, {0, -1}, {5, 5}, {Integer.MAX_VALUE, 0}};
        for (int[] b : bad) {
            Due.is("13: way(" + b[0] + ", " + b[1] + ")", x.way(b[0], b[1]), Due.BAD);
        }
    }

    private static void run() {
        StreetTillTen x = Due.street(0, 0, 1);
        x.bind(0, 2, 25);
        Due.is("14: now", x.run(0, 0), 1);
        Due.is("14: STRENGTH behind 1", x.run(1, 3), 27);
        Due.is("14: FRIENDS behind 2", x.run(2, 0), 0);
        Due.is("14: STRENGTH behind 3", x.run(3, 3), 31);
        Due.is("14: FRIENDS behind 4", x.run(4, 0), 1);
        Due.is("14: COMPANIES behind 4", x.run(4, 1), 2);
        Due.is("14: the largest behind 4", x.run(4, 2), 2);
        Due.is("14: the longest WAY behind 4", x.run(4, 4), 1);
        Due.is("14: 20", x.run(20, 3), 95);
        Due.is("14: all in thought", x.told(0, 12), 25);
        Due.is("14: YEAR, too", x.count(2), 0);
        Due.is("14: n -1", x.run(-1, 0), Due.BAD);
        Due.is("14: n 21", x.run(21, 0), Due.BAD);
        Due.is("14: what -1", x.run(0, -1), Due.BAD);
        Due.is("14: what 5", x.run(0, 5), Due.BAD);
    }

    private static void runPast999() {
        StreetTillTen x = Due.street(0, 0);
        x.set(0, 0, 990);
        x.force(Due.text(x, "meets 2 * (998 < year);fades 0;sounds 0;"));
        Due.is("14: YEAR passes 999", x.run(20, 3), 44);
        Due.is("14: YEAR is as it was", x.count(2), 990);
        x.set(0, 0, 999);
        Due.is("14: from 999 on", x.run(3, 3), 12);
    }

    private static void takes() {
        StreetTillTen x = Due.street(0, 0, 1);
        x.bind(0, 2, 25);
        Due.is("15: 0, always", x.takes(0), 0);
        Due.is("15: now", x.takes(1), 0);
        Due.is("15: never 2", x.takes(2), Due.NONE);
        x.bind(0, 2, 0);
        Due.is("15: behind some", x.takes(1), 4);
        x.set(1, 0, 99);
        Due.is("15: 99 is forgotten each YEAR", x.takes(1), Due.NONE);
        x.set(1, 0, 95);
        Due.is("15: 95 is left", x.takes(1), 16);
        x.force(Due.text(x, "meets 2;fades 0;sounds 0;"));
        x.set(1, 0, 80);
        Due.is("15: 20", x.takes(1), 20);
        x.set(1, 0, 81);
        Due.is("15: more than 20", x.takes(1), Due.NONE);
        Due.is("15: in thought", x.told(0, 11) + x.count(2), 0);
        Due.is("15: -1", x.takes(-1), Due.BAD);
        Due.is("15: 29", x.takes(29), Due.BAD);
        Due.is("15: 28", x.takes(28), Due.NONE);
        StreetTillTen all = Due.street(0, 0, 0, 0, 0, 0, 0, 0);
        Due.is("15: all 28", all.takes(28), 4);
    }
}
