/** Promises 16 to 20: best, change, split, missed, match. */
public final class BestTest {
    public static void main(String[] args) {
        best();
        bestBad();
        change();
        changeBad();
        split();
        splitOfKinds();
        splitBad();
        missed();
        match();
        Due.end();
    }

    private static void best() {
        StreetTillTen x = Due.street(1, 3, 3, Due.NONE);
        x.set(1, 0, 10);
        Due.is("16: no YEARS, the first TABLE", x.best(0, 0, 0), 0);
        Due.is("16: no YEARS, FRIENDS", x.best(0, 0, 1), 0);
        Due.is("16: where two are", x.best(0, 2, 0), 3);
        Due.is("16: FRIENDS there", x.best(0, 2, 1), 3);
        Due.is("16: one that isn't there", x.best(3, 2, 0), 3);
        Due.is("16: of like ones the first", x.best(1, 2, 0), 1);
        Due.is("16: FRIENDS of like ones", x.best(1, 2, 1), 1);
        x.set(3, 3, 2);
        Due.is("16: of three like ones the first", x.best(1, 2, 0), 1);
        Due.is("16: in thought", x.told(1, 3) + 10 * x.street(3) + 10 * x.count(2), 3);
        Due.is("16: n 20", x.best(0, 20, 1), 3);
        fourTablesAlone();
        StreetTillTen y = Due.street(2, 2);
        y.bind(0, 1, 30);
        Due.is("16: all alike", y.best(0, 1, 0), 0);
        Due.is("16: all alike, FRIENDS", y.best(0, 1, 1), 1);
    }

    /** To sit alone would be best, but there is a guest at each of the four TABLES. */
    private static void fourTablesAlone() {
        StreetTillTen x = Due.street(0, 1, 2, 3, Due.NONE);
        x.force(Due.text(x, "meets 0;fades 10 * (1 < seats);sounds 0;"));
        x.bind(0, 4, 45);
        x.bind(3, 4, 35);
        x.bind(1, 2, 35);
        Due.is("16: the guests of TABLE 0 are the last to be forgotten", x.best(4, 1, 0), 0);
        x.bind(0, 1, 25);
        Due.is("16: the guest of TABLE 2 has a friend to spare", x.best(4, 1, 0), 2);
        Due.is("16: FRIENDS with that one", x.best(4, 1, 1), 4);
        x.bind(2, 3, 25);
        Due.is("16: no TABLE beyond 3", x.best(4, 1, 0), 0);
        Due.is("16: FRIENDS at one of four", x.best(4, 1, 1), 4);
    }

    private static void bestBad() {
        StreetTillTen x = Due.street(0, 0);
        int[][] bad = {{2, 0, 0}, {-1, 0, 0}, {0, -1, 0}, {0, 21, 0}, {0, 0, -1}, {0, 0, 2}};
        for (int[] b : bad) {
            Due.is("16: best(" + b[0] + ", " + b[1] + ", " + b[2] + ")", x.best(b[0], b[1], b[2]), Due.BAD);
        }
        Due.is("16: no HOUSES", new StreetTillTen().best(0, 0, 0), Due.BAD);
    }

    private static void change() {
        StreetTillTen x = Due.street(0, 0, 0, 1, 1, Due.NONE);
        x.set(1, 0, 30);
        x.bind(0, 1, 60);
        x.bind(0, 2, 60);
        x.bind(1, 2, 60);
        x.bind(2, 4, 25);
        x.bind(1, 3, 24);
        Due.is("17: n 0", x.change(0, 0), Due.NONE);
        Due.is("17: n 0, FRIENDS", x.change(0, 1), 3);
        Due.is("17: the one that helps most", x.change(1, 0), 14);
        Due.is("17: FRIENDS then", x.change(1, 1), 5);
        x.bind(2, 3, 25);
        Due.is("17: of like ones the first", x.change(1, 0), 3);
        Due.is("17: FRIENDS of like ones", x.change(1, 1), 5);
        x.bind(1, 4, 25);
        Due.is("17: in thought", x.told(1, 3) + x.count(2), 0);
        StreetTillTen y = Due.street(0, Due.NONE, Due.NONE);
        y.bind(0, 1, 25);
        Due.is("17: not with one that isn't there", y.change(3, 0), Due.NONE);
        Due.is("17: as so, behind n YEARS", y.change(3, 1), 0);
        y.bind(0, 1, 24);
        y.bind(1, 2, 15);
        y.set(3, 2, 0);
        Due.is("17: nor if that would help", y.change(1, 0), Due.NONE);
        Due.is("17: as so, though that would help", y.change(1, 1), 1);
        StreetTillTen next = Due.street(0, 1, 0);
        next.bind(1, 2, 18);
        Due.is("17: HOUSES next to each other", next.change(1, 0), 1);
        StreetTillTen z = Due.street(0, 0, 1);
        z.bind(0, 1, 20);
        z.bind(1, 2, 20);
        Due.is("17: not if like", z.change(1, 0), Due.NONE);
        Due.is("17: FRIENDS if like", z.change(1, 1), 1);
    }

    private static void changeBad() {
        StreetTillTen x = Due.street(0, 1);
        int[][] bad = {{-1, 0}, {21, 0}, {0, -1}, {0, 2}};
        for (int[] b : bad) {
            Due.is("17: change(" + b[0] + ", " + b[1] + ")", x.change(b[0], b[1]), Due.BAD);
        }
        Due.is("17: n 20", x.change(20, 1), 0);
        Due.is("17: no HOUSES", new StreetTillTen().change(1, 0), Due.NONE);
    }

    private static void split() {
        StreetTillTen x = Due.street(3, Due.NONE, 2, 1);
        Due.is("18: n 0", x.split(0, 0), 0);
        Due.is("18: n 0, FRIENDS", x.split(0, 1), 0);
        x.set(1, 0, 5);
        Due.is("18: all together", x.split(1, 0), 0);
        Due.is("18: all FRIENDS", x.split(1, 1), 6);
        x.force(Due.text(x, "meets (seats < 3) * (number = other) * 5;fades 0;sounds 0;"));
        x.set(2, 0, 1);
        x.set(2, 3, 1);
        Due.is("18: 0 and 3, 1 and 2: the least as bits", x.split(1, 0), 6);
        Due.is("18: FRIENDS then", x.split(1, 1), 2);
        x.set(1, 0, 20);
        Due.is("18: n 2", x.split(2, 1), 2);
        Due.is("18: n 1 is not enough", x.split(1, 1), 0);
        Due.is("18: in thought", x.told(0, 3) + 10 * x.count(2), 3);
    }

    private static void splitOfKinds() {
        StreetTillTen x = Due.street(0, 0, 0, 0, 0, 0, 0, 0);
        x.force(Due.text(x, "meets (seats = 4) * (apart = 2) * 20;fades 0;sounds 0;"));
        Due.is("18: odd and even", x.split(1, 0), 85);
        Due.is("18: FRIENDS of odd and even", x.split(1, 1), 6);
        x.force(Due.text(x, "meets (seats = 1 + 6 * number) * 20;fades 0;sounds 0;"));
        for (int i = 0; i < 8; i++) {
            x.set(2, i, 1);
        }
        x.set(2, 7, 0);
        Due.is("18: the last one out", x.split(1, 0), 1);
        Due.is("18: of seven", x.split(1, 1), 21);
    }

    private static void splitBad() {
        StreetTillTen x = Due.street(0, 1);
        int[][] bad = {{-1, 0}, {3, 0}, {0, -1}, {0, 2}};
        for (int[] b : bad) {
            Due.is("18: split(" + b[0] + ", " + b[1] + ")", x.split(b[0], b[1]), Due.BAD);
        }
        Due.is("18: no HOUSES", new StreetTillTen().split(2, 0), 0);
        Due.is("18: no HOUSES, FRIENDS", new StreetTillTen().split(2, 1), 0);
    }

    private static void missed() {
        StreetTillTen x = Due.street(0, 0, 0, 0, 0, 0);
        Due.is("19: all alike, the first", x.missed(0), 0);
        Due.is("19: COMPANIES of five", x.missed(1), 5);
        x.bind(3, 0, 20);
        x.bind(3, 1, 20);
        x.bind(3, 2, 20);
        x.bind(4, 5, 20);
        Due.is("19: who keeps three", x.missed(0), 3);
        Due.is("19: COMPANIES then", x.missed(1), 4);
        x.bind(0, 4, 20);
        Due.is("19: still that one", x.missed(0), 3);
        x.bind(0, 1, 20);
        Due.is("19: of like ones the first", x.missed(0), 0);
        Due.is("19: COMPANIES of like ones", x.missed(1), 2);
        Due.is("19: nobody is gone", x.count(0), 6);
        Due.is("19: what -1", x.missed(-1), Due.BAD);
        Due.is("19: what 2", x.missed(2), Due.BAD);
        StreetTillTen none = new StreetTillTen();
        Due.is("19: no HOUSES", none.missed(0), Due.NONE);
        Due.is("19: no HOUSES, COMPANIES", none.missed(1), Due.NONE);
        StreetTillTen two = Due.street(0, 0);
        two.bind(0, 1, 99);
        Due.is("19: of two", two.missed(0), 0);
        Due.is("19: of two, COMPANIES", two.missed(1), 1);
        StreetTillTen one = Due.street(0);
        Due.is("19: of one", one.missed(0), 0);
        Due.is("19: of one, COMPANIES", one.missed(1), 0);
    }

    private static void match() {
        StreetTillTen x = Due.street(0, 0, 0, 0, 0, 0);
        Due.is("20: too many strangers", x.match(0), Due.NONE);
        Due.is("20: 9 is left", x.match(1), 9);
        for (int i = 0; i < 5; i++) {
            x.bind(i, i + 1, 20);
        }
        Due.is("20: the first as good as a ring", x.match(0), 4);
        Due.is("20: the longest WAY then", x.match(1), 3);
        x.bind(2, 3, 19);
        Due.is("20: two COMPANIES, by their midst", x.match(0), 14);
        Due.is("20: the longest WAY then, too", x.match(1), 3);
        Due.is("20: in thought", x.street(0), 4);
        x.bind(1, 4, 20);
        Due.is("20: not, if like", x.match(0), Due.NONE);
        Due.is("20: as now", x.match(1), 3);
        StreetTillTen y = Due.street(0, 0, 0);
        y.bind(0, 1, 20);
        y.bind(1, 2, 20);
        Due.is("20: the ends", y.match(0), 2);
        Due.is("20: all KNOW each other then", y.match(1), 1);
        y.bind(0, 2, 20);
        Due.is("20: all KNOW each other", y.match(0), Due.NONE);
        Due.is("20: as now, 1", y.match(1), 1);
        Due.is("20: what -1", y.match(-1), Due.BAD);
        Due.is("20: what 2", y.match(2), Due.BAD);
        StreetTillTen three = Due.street(0, 0, 0);
        three.bind(0, 2, 20);
        Due.is("20: KNOWING goes both ways", three.match(0), 1);
        Due.is("20: by the lesser one", three.match(1), 2);
        StreetTillTen two = Due.street(0, 0);
        Due.is("20: 0 and 1", two.match(0), 1);
        Due.is("20: from 9 to 1", two.match(1), 1);
        Due.is("20: one HOUSE", Due.street(0).match(0), Due.NONE);
        Due.is("20: one HOUSE, no WAY", Due.street(0).match(1), 0);
        Due.is("20: no HOUSES", new StreetTillTen().match(1), 0);
    }
}
