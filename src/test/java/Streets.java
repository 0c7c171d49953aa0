/** Streets on which much has been done already, so that what changes on them is seen. */
final class Streets {
    private Streets() {
    }

    /** Five HOUSES, three of them in THE IMAGE, three TEXTS, a part of one on THE TAPE, a SHEET of each sort and none. */
    static StreetTillTen busy() {
        StreetTillTen x = new StreetTillTen();
        x.house(0, 3);
        x.house(1, 5);
        x.house(4, 2);
        x.set(3, 0, 0);
        x.set(3, 1, 0);
        x.set(3, 2, 1);
        x.bind(0, 1, 18);
        x.bind(0, 2, 25);
        x.bind(1, 2, 19);
        Due.text(x, "meets 4 + number;fades 1;sounds 7;");
        x.force(1);
        x.set(0, 0, 5);
        x.set(1, 0, 18);
        x.image();
        x.house(3, 4);
        x.house(5, 8);
        x.set(3, 3, 1);
        x.set(3, 4, 2);
        x.bind(3, 0, 44);
        x.bind(4, 3, 17);
        x.set(0, 0, 6);
        x.set(1, 0, 19);
        x.set(2, 1, 6);
        x.set(3, 1, 2);
        x.bind(0, 1, 20);
        Due.text(x, "meets 6;fades 3;sounds seats + 1;");
        x.force(2);
        Due.feed(x, "meets 1;fades 2");
        Due.sheet(x, 0, 0, 1, 2, 3, 4, 5);
        Due.sheet(x, 1, 1, 0, 9, 2, 8, 3, 7);
        Due.sheet(x, 2, 2, 5, 5, 4, 4);
        return x;
    }

    /** As busy(), but with no room for a HOUSE, a TEXT or a byte more, and YEAR is the last. */
    static StreetTillTen full() {
        StreetTillTen x = busy();
        for (int number = 1; number < 4; number++) {
            x.house(2, number);
        }
        Due.feed(x, ";sounds 9;");
        x.text();
        for (int i = 4; i < 6; i++) {
            Due.text(x, "meets " + i + ";fades " + i + ";sounds " + i + ";");
        }
        for (int i = 0; i < 160; i++) {
            x.feed(' ');
        }
        x.set(0, 0, 999);
        return x;
    }

    /** As busy(), but THE TAPE has no room for a byte more: with this alone it would be a TEXT. */
    static StreetTillTen fullTape() {
        StreetTillTen x = busy();
        Due.feed(x, ";sounds 8");
        while (x.count(4) < 159) {
            x.feed(' ');
        }
        x.feed(';');
        return x;
    }

    /** All HOUSES at TABLE 0, KIND 0 and NUMBER 0, and each two of them so strong. */
    static StreetTillTen alike(int houses, int strength) {
        StreetTillTen x = Due.street(new int[houses]);
        for (int one = 0; one < houses; one++) {
            for (int other = one + 1; other < houses; other++) {
                x.bind(one, other, strength);
            }
        }
        return x;
    }

    /** HOUSES of KIND 0 and NUMBER 0 that aren't there. */
    static StreetTillTen away(int houses) {
        int[] tables = new int[houses];
        for (int i = 0; i < houses; i++) {
            tables[i] = Due.NONE;
        }
        return Due.street(tables);
    }
}
