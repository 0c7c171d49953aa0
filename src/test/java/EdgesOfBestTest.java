/** Promises 16 to 20, sentence by sentence: bounds, like ones, what can't be bettered, streets of none, one and eight. */
public final class EdgesOfBestTest {
    private static final int LEAST = Integer.MIN_VALUE, MOST = Integer.MAX_VALUE;

    public static void main(String[] args) {
        bestBad();
        bestIsIdle();
        bestOfLikeOnes();
        bestAtEachTable();
        bestInYears();
        changeBad();
        changeIsIdle();
        changeOfNone();
        changeOfWhom();
        changeIfMore();
        changeOfLikeOnes();
        changeInYears();
        splitBad();
        splitIsIdle();
        splitOfFew();
        splitOfLikeOnes();
        splitEachWay();
        missedBad();
        missedOfFew();
        missedOfLikeOnes();
        missedOfAllOthers();
        matchBad();
        matchOfFew();
        matchOfStrangers();
        matchBothWays();
        matchIfLess();
        matchOfLikeOnes();
        Due.end();
    }

    // ---- 16

    private static void bestBad() {
        for (int house : new int[] {-1, 5, 7, 8, 256, LEAST, MOST}) {
            Due.idle("16: no HOUSE " + house, y -> y.best(house, 1, 0), Due.BAD);
        }
        for (int n : new int[] {-1, 21, 22, 256, LEAST, MOST}) {
            Due.idle("16: n " + n, y -> y.best(0, n, 0), Due.BAD);
        }
        for (int what : new int[] {-1, 2, 3, 256, LEAST, MOST}) {
            Due.idle("16: what " + what, y -> y.best(0, 1, what), Due.BAD);
        }
        Due.is("16: no HOUSES", new StreetTillTen().best(0, 0, 0), Due.BAD);
        Due.is("16: no HOUSE 8 of eight", Streets.full().best(8, 0, 0), Due.BAD);
        Due.is("16: HOUSE 7 of eight", Streets.full().best(7, 0, 0), 0);
    }

    private static void bestIsIdle() {
        for (int house = 0; house < 5; house++) {
            int of = house;
            for (int n : new int[] {0, 1, 20}) {
                Due.idle("16: in thought, HOUSE " + house + ", n " + n, y -> y.best(of, n, 0), bestOf(house, n, 0));
                Due.idle("16: FRIENDS in thought, HOUSE " + house + ", n " + n, y -> y.best(of, n, 1), bestOf(house, n, 1));
            }
        }
    }

    /** By what truly would be at each TABLE. */
    private static int bestOf(int house, int n, int what) {
        int best = 0;
        int most = -1;
        for (int table = 0; table < 4; table++) {
            StreetTillTen x = Streets.busy();
            x.set(3, house, table);
            int friends = x.run(n, 0);
            if (friends > most) {
                most = friends;
                best = table;
            }
        }
        return what == 0 ? best : most;
    }

    private static void bestOfLikeOnes() {
        Due.is("16: one alone, the first TABLE", Due.street(3).best(0, 20, 0), 0);
        Due.is("16: one alone, FRIENDS", Due.street(3).best(0, 20, 1), 0);
        Due.is("16: one that isn't there", Streets.away(1).best(0, 20, 0), 0);
        Due.is("16: in no YEARS all are alike", Due.street(3, 3).best(0, 0, 0), 0);
        StreetTillTen x = Due.street(Due.NONE, 2, 3);
        Due.is("16: of 2 and 3 the first", x.best(0, 4, 0), 2);
        Due.is("16: FRIENDS at either", x.best(0, 4, 1), 1);
        StreetTillTen y = Due.street(2, 1, 3);
        Due.is("16: of 1 and 3 the first, though it sits at 2", y.best(0, 4, 0), 1);
        StreetTillTen z = Due.street(3, 3, 1);
        Due.is("16: though it sits at one of them", z.best(0, 4, 0), 1);
    }

    private static void bestAtEachTable() {
        for (int table = 0; table < 4; table++) {
            StreetTillTen x = Due.street(Due.NONE, table);
            Due.is("16: TABLE " + table, x.best(0, 4, 0), table);
            Due.is("16: FRIENDS at TABLE " + table, x.best(0, 4, 1), 1);
            Due.is("16: the other one's best is the first", x.best(1, 4, 0), 0);
        }
    }

    /** Two who MEET at one TABLE are FRIENDS behind 4 YEARS, by 24 from 0 on. */
    private static void bestInYears() {
        StreetTillTen x = Due.street(Due.NONE, 3);
        Due.is("16: n 3 is too few", x.best(0, 3, 0), 0);
        Due.is("16: FRIENDS behind 3", x.best(0, 3, 1), 0);
        Due.is("16: n 4", x.best(0, 4, 0), 3);
        Due.is("16: n 19", x.best(0, 19, 1), 1);
        Due.is("16: n 20", x.best(0, 20, 1), 1);
        Due.is("16: it is not there yet", x.told(0, 3), Due.NONE);
        x.set(0, 0, 999);
        Due.is("16: past 999", x.best(0, 20, 0), 3);
        Due.is("16: YEAR is still 999", x.count(2), 999);
    }

    // ---- 17

    private static void changeBad() {
        for (int n : new int[] {-1, 21, 22, 256, LEAST, MOST}) {
            Due.idle("17: n " + n, y -> y.change(n, 0), Due.BAD);
        }
        for (int what : new int[] {-1, 2, 3, 256, LEAST, MOST}) {
            Due.idle("17: what " + what, y -> y.change(1, what), Due.BAD);
        }
        Due.is("17: n 21 without HOUSES", new StreetTillTen().change(21, 0), Due.BAD);
        Due.is("17: what 2 without HOUSES", new StreetTillTen().change(0, 2), Due.BAD);
    }

    private static void changeIsIdle() {
        for (int n : new int[] {0, 1, 2, 3, 5, 20}) {
            Due.idle("17: in thought, n " + n, y -> y.change(n, 0), changeOf(n, 0));
            Due.idle("17: FRIENDS in thought, n " + n, y -> y.change(n, 1), changeOf(n, 1));
        }
    }

    /** By what truly would be if two were at each other's TABLES. */
    private static int changeOf(int n, int what) {
        int best = Due.NONE;
        int most = Streets.busy().run(n, 0);
        for (int one = 0; one < 5; one++) {
            for (int other = one + 1; other < 5; other++) {
                StreetTillTen x = Streets.busy();
                int table = x.set(3, one, x.told(other, 3));
                x.set(3, other, table);
                int friends = x.run(n, 0);
                if (friends > most) {
                    most = friends;
                    best = 10 * one + other;
                }
            }
        }
        return what == 0 ? best : most;
    }

    private static void changeOfNone() {
        for (int n : new int[] {0, 1, 19, 20}) {
            Due.is("17: no HOUSES, n " + n, new StreetTillTen().change(n, 0), Due.NONE);
            Due.is("17: no HOUSES, FRIENDS, n " + n, new StreetTillTen().change(n, 1), 0);
            Due.is("17: one, n " + n, Due.street(0).change(n, 0), Due.NONE);
            Due.is("17: two, n " + n, Due.street(0, 1).change(n, 0), Due.NONE);
            Due.is("17: two, FRIENDS, n " + n, Due.street(0, 1).change(n, 1), 0);
            Due.is("17: eight at one TABLE, n " + n, Streets.alike(8, 99).change(n, 0), Due.NONE);
            Due.is("17: eight at one TABLE, FRIENDS, n " + n, Streets.alike(8, 99).change(n, 1), 28);
            Due.is("17: nobody there, n " + n, Streets.away(8).change(n, 0), Due.NONE);
        }
    }

    /** HOUSE 0 of NUMBER 1 is known at once by whom it sits with; it sits alone. */
    private static StreetTillTen guest(int... tables) {
        StreetTillTen x = Due.street(tables);
        x.force(Due.text(x, "meets (number = 1) * 20;fades 0;sounds 0;"));
        x.set(2, 0, 1);
        return x;
    }

    private static void changeOfWhom() {
        Due.is("17: both there", guest(0, 1, 1).change(1, 0), 1);
        Due.is("17: FRIENDS then", guest(0, 1, 1).change(1, 1), 1);
        Due.is("17: not with one that isn't there", guest(0, Due.NONE, Due.NONE).change(1, 0), Due.NONE);
        Due.is("17: not one that isn't there", guest(Due.NONE, 1, 1).change(1, 0), Due.NONE);
        Due.is("17: FRIENDS as so", guest(Due.NONE, 1, 1).change(1, 1), 0);
        Due.is("17: at TABLES 3 and 0", guest(3, 0, 0).change(1, 0), 1);
        Due.is("17: at TABLES 2 and 3", guest(2, 3, 3).change(1, 0), 1);
        Due.is("17: those at one TABLE don't change", guest(2, 2, 2).change(1, 0), Due.NONE);
        Due.is("17: FRIENDS of those", guest(2, 2, 2).change(1, 1), 2);
        StreetTillTen last = Due.street(0, 0, 0, 0, 0, 0, 1, 2);
        last.force(Due.text(last, "meets (number = 1) * (other = 1) * 20;fades 0;sounds 0;"));
        last.set(2, 5, 1);
        last.set(2, 7, 1);
        Due.is("17: 5 takes the place of 6 in vain; 0 and 7", last.change(1, 0), 7);
        StreetTillTen end = Due.street(1, 1, 1, 1, 1, 1, 1, 2);
        end.force(Due.text(end, "meets (number = 1) * (other = 1) * 20;fades 0;sounds 0;"));
        end.set(2, 6, 1);
        end.set(2, 7, 1);
        end.set(3, 6, 3);
        Due.is("17: 6 and 7, each alone, want a third", end.change(1, 0), Due.NONE);
        end.set(3, 5, 3);
        for (int i = 0; i < 5; i++) {
            end.set(3, i, Due.NONE);
        }
        Due.is("17: 5 and 7: the lesser first", end.change(1, 0), 57);
        end.set(3, 5, 2);
        Due.is("17: 5 and 6", end.change(1, 0), 56);
        end.set(2, 5, 1);
        end.set(2, 7, 0);
        end.set(3, 6, 2);
        end.set(3, 5, 0);
        end.set(3, 4, 0);
        Due.is("17: 4 and 6 ahead of 5 and 7", end.change(1, 0), 46);
    }

    private static void changeIfMore() {
        StreetTillTen x = guest(0, 1, 1);
        x.bind(1, 2, 50);
        Due.is("17: 1 and 2 are FRIENDS by that already, so it is more", x.change(1, 0), 1);
        Due.is("17: as many FRIENDS are not more", Due.street(0, 0, 1).change(4, 0), Due.NONE);
        Due.is("17: FRIENDS of that", Due.street(0, 0, 1).change(4, 1), 1);
        Due.is("17: in no YEARS nothing is more", guest(0, 1, 1).change(0, 0), Due.NONE);
        Due.is("17: in no YEARS it is as now", friendsOf(guest(0, 1, 1)).change(0, 1), 1);
        StreetTillTen less = Due.street(0, 0, 0, 1);
        Due.is("17: fewer are not more", less.change(4, 0), Due.NONE);
        Due.is("17: FRIENDS, were none to change", less.change(4, 1), 3);
    }

    private static StreetTillTen friendsOf(StreetTillTen x) {
        x.bind(0, 2, 20);
        return x;
    }

    private static void changeOfLikeOnes() {
        Due.is("17: 0 with 1, 2 or 3: the first", guest(0, 1, 1, 1).change(1, 0), 1);
        StreetTillTen x = guest(0, 2, 1, 1);
        Due.is("17: 0 with 2 or 3, not with 1", x.change(1, 0), 2);
        StreetTillTen y = guest(0, 1, 1, 3, 3, 3);
        Due.is("17: the one by whom more", y.change(1, 0), 3);
        Due.is("17: FRIENDS by that one", y.change(1, 1), 2);
        StreetTillTen z = guest(3, 1, 1, 0, 0);
        Due.is("17: 0 with 1 or with 3: the first", z.change(1, 0), 1);
    }

    private static void changeInYears() {
        // Who sit together MEET by 10 and FORGET by 4: 14 and 4 YEARS are 38, others lose 16.
        StreetTillTen x = Due.street(0, 0, 1);
        x.bind(0, 1, 40);
        Due.is("17: behind 4 YEARS 1 and 2 help", x.change(4, 0), 2);
        Due.is("17: FRIENDS then, by 0 and 1 still", x.change(4, 1), 2);
        Due.is("17: behind 3 they don't yet", x.change(3, 0), Due.NONE);
        Due.is("17: behind 6 it is no more", x.change(6, 0), Due.NONE);
        x.set(0, 0, 999);
        Due.is("17: past 999", x.change(4, 0), 2);
        Due.is("17: YEAR is still 999", x.count(2), 999);
    }

    // ---- 18

    private static void splitBad() {
        for (int n : new int[] {-1, 3, 4, 20, 21, 256, LEAST, MOST}) {
            Due.idle("18: n " + n, y -> y.split(n, 0), Due.BAD);
        }
        for (int what : new int[] {-1, 2, 3, 256, LEAST, MOST}) {
            Due.idle("18: what " + what, y -> y.split(1, what), Due.BAD);
        }
        Due.is("18: n 3 without HOUSES", new StreetTillTen().split(3, 0), Due.BAD);
        Due.is("18: what 2 without HOUSES", new StreetTillTen().split(0, 2), Due.BAD);
    }

    private static void splitIsIdle() {
        for (int n = 0; n <= 2; n++) {
            int years = n;
            int[] due = splitOf(n);
            Due.idle("18: in thought, n " + n, y -> y.split(years, 0), due[0]);
            Due.idle("18: FRIENDS in thought, n " + n, y -> y.split(years, 1), due[1]);
        }
    }

    /** By what truly would be if all five sat so. */
    private static int[] splitOf(int n) {
        int[] best = {0, -1};
        for (int bits = 0; bits < 1 << 5; bits++) {
            StreetTillTen x = Streets.busy();
            for (int house = 0; house < 5; house++) {
                x.set(3, house, (bits & 1 << house) == 0 ? 0 : 1);
            }
            int friends = x.run(n, 0);
            if (friends > best[1]) {
                best[0] = bits;
                best[1] = friends;
            }
        }
        return best;
    }

    private static void splitOfFew() {
        for (int n = 0; n <= 2; n++) {
            Due.is("18: no HOUSES, n " + n, new StreetTillTen().split(n, 0), 0);
            Due.is("18: no HOUSES, FRIENDS, n " + n, new StreetTillTen().split(n, 1), 0);
            Due.is("18: one, n " + n, Due.street(3).split(n, 0), 0);
            Due.is("18: one, FRIENDS, n " + n, Due.street(3).split(n, 1), 0);
            Due.is("18: one that isn't there, n " + n, Streets.away(1).split(n, 0), 0);
        }
        StreetTillTen x = Due.street(Due.NONE, 3);
        x.bind(0, 1, 9);
        Due.is("18: n 0, not yet", x.split(0, 1), 0);
        Due.is("18: n 1, not yet", x.split(1, 1), 0);
        Due.is("18: n 2, those who weren't there, too", x.split(2, 1), 1);
        Due.is("18: they sit together", x.split(2, 0), 0);
        Due.is("18: but truly they don't", x.told(0, 3), Due.NONE);
    }

    private static void splitOfLikeOnes() {
        for (int houses = 0; houses <= 8; houses++) {
            Due.is("18: of like ones the least as bits, n 0, " + houses, Streets.alike(houses, 99).split(0, 0), 0);
            Due.is("18: of like ones the least as bits, n 2, " + houses, Streets.alike(houses, 99).split(2, 0), 0);
            Due.is("18: FRIENDS, " + houses, Streets.alike(houses, 99).split(2, 1), houses * (houses - 1) / 2);
        }
        // Two and two, whoever they are: 3, 5, 6 and their like are as good; 3 is the least.
        StreetTillTen x = Streets.alike(4, 0);
        x.force(Due.text(x, "meets (seats = 2) * 20;fades 0;sounds 0;"));
        Due.is("18: two and two", x.split(1, 0), 3);
        Due.is("18: two and two, FRIENDS", x.split(1, 1), 2);
    }

    /** Each HOUSE alone, and each two together, is what is best at some time; those at TABLE 0 might as well be at 1. */
    private static void splitEachWay() {
        for (int one = 0; one < 8; one++) {
            for (int other = 0; other < 8; other++) {
                StreetTillTen x = Streets.alike(8, 0);
                x.set(2, one, 1);
                x.set(2, other, 1);
                x.force(Due.text(x, "meets (number = other) * (seats = " + (one == other ? 7 : 6) + ") * 20;fades 0;sounds 0;"));
                int bits = Math.min(1 << one | 1 << other, 255 - (1 << one | 1 << other));
                Due.is("18: " + one + " and " + other + " apart", x.split(1, 0), bits);
                Due.is("18: FRIENDS of the others", x.split(1, 1), one == other ? 21 : 15);
            }
        }
    }

    // ---- 19

    private static void missedBad() {
        for (int what : new int[] {-1, 2, 3, 256, LEAST, MOST}) {
            Due.idle("19: what " + what, y -> y.missed(what), Due.BAD);
            Due.is("19: no HOUSES, what " + what, new StreetTillTen().missed(what), Due.BAD);
        }
        Due.idle("19: in thought", y -> y.missed(0), 0);
        Due.idle("19: COMPANIES in thought", y -> y.missed(1), 3);
    }

    private static void missedOfFew() {
        Due.is("19: no HOUSES", new StreetTillTen().missed(0), Due.NONE);
        Due.is("19: no HOUSES, COMPANIES", new StreetTillTen().missed(1), Due.NONE);
        Due.is("19: one", Due.street(0).missed(0), 0);
        Due.is("19: one, COMPANIES of none", Due.street(0).missed(1), 0);
        Due.is("19: two strangers", Streets.alike(2, 19).missed(0), 0);
        Due.is("19: two strangers, COMPANIES", Streets.alike(2, 19).missed(1), 1);
        Due.is("19: two FRIENDS", Streets.alike(2, 20).missed(0), 0);
        Due.is("19: two FRIENDS, COMPANIES", Streets.alike(2, 20).missed(1), 1);
    }

    private static void missedOfLikeOnes() {
        Due.is("19: eight FRIENDS: the first", Streets.alike(8, 20).missed(0), 0);
        Due.is("19: eight FRIENDS: one COMPANY", Streets.alike(8, 20).missed(1), 1);
        Due.is("19: eight strangers: the first", Streets.alike(8, 19).missed(0), 0);
        Due.is("19: eight strangers: seven COMPANIES", Streets.alike(8, 19).missed(1), 7);
        StreetTillTen row = Streets.away(5);
        for (int i = 0; i < 4; i++) {
            row.bind(i, i + 1, 20);
        }
        Due.is("19: a row of five: 1, 2 or 3", row.missed(0), 1);
        Due.is("19: a row of five: two COMPANIES", row.missed(1), 2);
    }

    private static void missedOfAllOthers() {
        for (int house = 0; house < 8; house++) {
            StreetTillTen x = Streets.away(8);
            for (int other = 0; other < 8; other++) {
                x.bind(house, other, 20);
            }
            Due.is("19: who keeps all together, " + house, x.missed(0), house);
            Due.is("19: seven COMPANIES without " + house, x.missed(1), 7);
            Due.is("19: one with " + house, x.street(1), 1);
        }
        // One by itself is a COMPANY that would be gone: less, not more.
        StreetTillTen x = Streets.alike(3, 20);
        x.bind(0, 1, 0);
        x.bind(0, 2, 0);
        Due.is("19: not the one by itself", x.missed(0), 1);
        Due.is("19: two COMPANIES still", x.missed(1), 2);
    }

    // ---- 20

    private static void matchBad() {
        for (int what : new int[] {-1, 2, 3, 256, LEAST, MOST}) {
            Due.idle("20: what " + what, y -> y.match(what), Due.BAD);
            Due.is("20: no HOUSES, what " + what, new StreetTillTen().match(what), Due.BAD);
        }
        Due.idle("20: in thought", y -> y.match(0), 4);
        Due.idle("20: the longest WAY in thought", y -> y.match(1), 2);
    }

    private static void matchOfFew() {
        Due.is("20: no HOUSES", new StreetTillTen().match(0), Due.NONE);
        Due.is("20: no HOUSES, no WAY", new StreetTillTen().match(1), 0);
        Due.is("20: one", Due.street(0).match(0), Due.NONE);
        Due.is("20: one, no WAY", Due.street(0).match(1), 0);
        Due.is("20: two strangers", Streets.alike(2, 19).match(0), 1);
        Due.is("20: two strangers, from 9 to 1", Streets.alike(2, 19).match(1), 1);
        Due.is("20: two FRIENDS", Streets.alike(2, 20).match(0), Due.NONE);
        Due.is("20: two FRIENDS, as now", Streets.alike(2, 20).match(1), 1);
        Due.is("20: eight FRIENDS", Streets.alike(8, 99).match(0), Due.NONE);
        Due.is("20: eight FRIENDS, as now", Streets.alike(8, 99).match(1), 1);
    }

    private static void matchOfStrangers() {
        Due.is("20: three strangers, one two is too few", Streets.alike(3, 19).match(0), Due.NONE);
        Due.is("20: three strangers count 9", Streets.alike(3, 19).match(1), 9);
        Due.is("20: eight strangers", Streets.alike(8, 19).match(0), Due.NONE);
        Due.is("20: eight strangers count 9", Streets.alike(8, 19).match(1), 9);
        // Two rows of four: 0 1 2 3, 4 5 6 7. Joined by their midst the longest WAY is 5.
        StreetTillTen x = Streets.away(8);
        for (int i : new int[] {0, 1, 2, 4, 5, 6}) {
            x.bind(i, i + 1, 20);
        }
        Due.is("20: two rows, by their midst", x.match(0), 15);
        Due.is("20: the longest WAY then", x.match(1), 5);
        Due.is("20: they are two still", x.street(1), 2);
        // A row of seven and one by itself: by an end of the row 7 would be the longest WAY, by all between 6.
        StreetTillTen y = Streets.away(8);
        for (int i = 0; i < 6; i++) {
            y.bind(i, i + 1, 20);
        }
        Due.is("20: the first of a row of seven that is no end", y.match(0), 17);
        Due.is("20: 6 then", y.match(1), 6);
    }

    /** 0 KNOWS 2: from 0 to 1 it is by 2 then, from the greater to the lesser. */
    private static void matchBothWays() {
        StreetTillTen x = Streets.away(3);
        x.bind(0, 2, 20);
        Due.is("20: 0 and 1, or 1 and 2", x.match(0), 1);
        x.house(0, 0);
        x.bind(0, 3, 20);
        Due.is("20: 0 keeps 2 and 3, so 1 comes to 0", x.match(0), 1);
        Due.is("20: 2 then", x.match(1), 2);
        StreetTillTen y = Streets.away(4);
        y.bind(0, 3, 20);
        y.bind(3, 2, 20);
        Due.is("20: 3 keeps 0 and 2, so 1 comes to 3", y.match(0), 13);
        Due.is("20: 2 then, too", y.match(1), 2);
    }

    private static void matchIfLess() {
        StreetTillTen x = Streets.alike(4, 20);
        x.bind(0, 1, 19);
        x.bind(2, 3, 19);
        Due.is("20: two twos of strangers, 2 stays", x.match(0), Due.NONE);
        Due.is("20: as now, 2", x.match(1), 2);
        x.bind(2, 3, 20);
        Due.is("20: the last two strangers", x.match(0), 1);
        Due.is("20: 1 then", x.match(1), 1);
        Due.is("20: now it is 2", x.street(4), 2);
    }

    private static void matchOfLikeOnes() {
        StreetTillTen x = Streets.away(4);
        x.bind(0, 1, 20);
        x.bind(1, 2, 20);
        x.bind(2, 3, 20);
        Due.is("20: a row of four: 02, 03 and 13 are alike", x.match(0), 2);
        Due.is("20: 2 then", x.match(1), 2);
        StreetTillTen last = Streets.alike(8, 20);
        last.bind(6, 7, 19);
        Due.is("20: 6 and 7", last.match(0), 67);
        Due.is("20: 1 by them", last.match(1), 1);
        last.bind(6, 7, 0);
        Due.is("20: whatever they were", last.match(0), 67);
    }
}
