/** Promises 6 to 8: feed, text, force; and what a TEXT tells. */
public final class TextsTest {
    public static void main(String[] args) {
        feed();
        text();
        textFull();
        faults();
        nesting();
        values();
        names();
        longestText();
        force();
        Due.end();
    }

    private static void feed() {
        StreetTillTen x = new StreetTillTen();
        Due.is("6: -1", x.feed(-1), Due.BAD);
        Due.is("6: 256", x.feed(256), Due.BAD);
        Due.is("6: 0", x.feed(0), 1);
        Due.is("6: 255", x.feed(255), 2);
        Due.is("6: bytes", x.count(4), 2);
        for (int i = 3; i <= 160; i++) {
            Due.is("6: byte " + i, x.feed(' '), i);
        }
        Due.is("6: FULL", x.feed(' '), Due.FULL);
        Due.is("6: BAD ahead of FULL", x.feed(256), Due.BAD);
        Due.is("6: bytes at last", x.count(4), 160);
        Due.is("7: FAULT at 0", x.text(), -100);
        Due.is("6: empty behind it", x.feed('a'), 1);
    }

    private static void text() {
        StreetTillTen x = new StreetTillTen();
        Due.is("7: an empty TAPE", x.text(), -100);
        Due.is("7: the first", Due.text(x, "meets 1;fades 2;sounds 3;"), 1);
        Due.is("7: THE TAPE is empty", x.count(4), 0);
        Due.is("7: a FAULT", Due.text(x, "meets 1;fades 2;sounds"), -122);
        Due.is("7: THE TAPE is empty by a FAULT, too", x.count(4), 0);
        Due.is("7: no TEXT by a FAULT", x.count(3), 2);
        Due.is("7: the second", Due.text(x, "\nmeets1;fades\n2;sounds 3 ;\n "), 2);
        Due.is("7: letters of a longer TAPE", Due.text(x, "aaaaaaaaaaaaaaaa"), -100);
        Due.is("7: they are gone", Due.text(x, "meets"), -105);
        Due.is("7: digits of a longer TAPE", Due.text(x, "1111111111111111"), -100);
        Due.is("7: they are gone, too", Due.text(x, "meets 4"), -107);
        Due.is("7: a FAULT far on", Due.text(x, "meets 9;fades 8;sounds 7;5"), -125);
        Due.is("7: a TEXT behind a FAULT", Due.text(x, "meets 1;fades 2;sounds 3;"), 3);
        x.house(0, 0);
        x.house(0, 0);
        x.force(3);
        Due.is("7: its meets", x.asks(0, 1, 0), 1);
        Due.is("7: its fades", x.asks(0, 1, 1), 2);
        Due.is("7: its sounds", x.told(0, 7), 3);
        x.force(0);
        Due.is("7: THE RULE stays", x.count(5), 0);
    }

    private static void textFull() {
        StreetTillTen x = new StreetTillTen();
        for (int i = 1; i < 6; i++) {
            Due.is("7: TEXT " + i, Due.text(x, "meets " + i + ";fades 0;sounds 0;"), i);
        }
        Due.is("7: TEXTS", x.count(3), 6);
        Due.feed(x, "%");
        Due.is("7: FULL ahead of a FAULT", x.text(), Due.FULL);
        Due.is("7: THE TAPE stays", x.count(4), 1);
        Due.is("7: FULL again", x.text(), Due.FULL);
        x.house(0, 0);
        x.house(0, 0);
        for (int i = 5; i > 0; i--) {
            x.force(i);
            Due.is("7: TEXT " + i + " is as it was read", x.asks(0, 1, 0), i);
        }
    }

    /** What a text is refused at: its FAULT's place. */
    private static void fault(String text, int place) {
        StreetTillTen x = new StreetTillTen();
        Due.is("7: \"" + text + "\"", Due.text(x, text), -100 - place);
        Due.is("7: \"" + text + "\" is no TEXT", x.count(3), 1);
    }

    private static void faults() {
        fault("  ", 2);
        fault("meets", 5);
        fault("meets ", 6);
        fault("meets 5", 7);
        fault("meets 5 ; ", 10);
        fault("fades 5;", 0);
        fault("meets;", 5);
        fault("meets 5;meets 5;", 8);
        fault("meets 5;fades 5;sounds 5", 24);
        fault("meets 5;fades 5;sounds 5;;", 25);
        fault("meets 5;fades 5;sounds 5; 7", 26);
        fault("meets 5;fades 5;sounds 5; Z", 26);
        fault("meet 5;", 0);
        fault("meetss 5;", 0);
        fault("meets years;", 6);
        fault("meets 12345;", 6);
        fault("meets 00001;", 6);
        fault("meets 1 12345;", 8);
        fault("meets 1 2;", 8);
        fault("meets 1 year;", 8);
        fault("meets 1 + ;", 10);
        fault("meets + 1;", 6);
        fault("meets * 1;", 6);
        fault("meets 1 + + 1;", 10);
        fault("meets 1 < 2 < 3;", 12);
        fault("meets 1 = 2 < 3;", 12);
        fault("meets 1 + not 2;", 10);
        fault("meets - not 2;", 8);
        fault("meets 1 < not 2;", 10);
        fault("meets 1 not 2;", 8);
        fault("meets 1 and or 2;", 12);
        fault("meets and 2;", 6);
        fault("meets (1;", 8);
        fault("meets (1", 8);
        fault("meets 1);", 7);
        fault("meets ();", 7);
        fault("meets 5 fades 5;", 8);
        fault("meets meets;", 6);
        fault("meets 1 + sounds;", 10);
        fault("meets 1 sounds 2;", 8);
        fault("meets 1;sounds 1;", 8);
        fault("meets 1;fades 1;or 1;", 16);
        fault("meets 1;fades 1;fades 1;", 16);
        fault("geets 5;", 0);
        fault("meetsz 5;", 0);
        fault("ameets 5;", 0);
        fault("meets sea;", 6);
        fault("meets 5a;", 7);
        fault("meets 5 5;", 8);
        fault(";".repeat(160), 0);
        fault("5".repeat(160), 0);
        fault("meets " + "(".repeat(154), 11);
        fault("meets \t5;", 6);
        fault("meets 5\r;", 7);
        fault("meets \0;", 6);
        fault("meets Year;", 6);
        fault("meets 5/2;", 7);
        fault("meets 5>2;", 7);
        fault("meets 5==2;", 8);
        fault("\u00e9", 0);
        fault("meets 5 ; fades 2 ; sounds seats ; meets", 35);
    }

    private static void nesting() {
        reads("(((((1)))))", 1);
        fault("meets ((((((1))))));", 11);
        reads("-----5", 0);
        reads("----5", 5);
        fault("meets ------5;", 11);
        reads("not not not not not 0", 1);
        fault("meets not not not not not not 0;", 26);
        reads("not (-(-7))", 0);
        fault("meets not (-(-(7)));", 14);
        fault("meets not (-(--7));", 14);
        fault("meets (((((not 7)))));", 11);
        reads("((((-7))))+(((((9)))))+-----1+1", 2);
        reads("((((not 0)))) and (((((1)))))", 1);
        fault("meets (((((1)))))+((((((1))))));", 23);
        reads("not 1 = 2 and (((((1)))))", 1);
        reads("not 0 + ((((1))))", 0);
        fault("meets not 0 + (((((1)))));", 18);
        fault("meets -(((((1)))));", 11);
    }

    /** What an E tells as meets, of HOUSE 1 (NUMBER 3) with HOUSE 4 (NUMBER 7). */
    private static void reads(String e, int value) {
        StreetTillTen x = Due.street(2, 2, 1, 2, Due.NONE);
        x.set(2, 1, 3);
        x.set(2, 4, 7);
        x.set(0, 0, 41);
        x.bind(1, 4, 29);
        Due.is("7: " + e + " is read", Due.text(x, "meets " + e + ";fades " + e + ";sounds 1;"), 1);
        x.force(1);
        Due.is("7: meets " + e, x.asks(1, 4, 0), value);
        Due.is("7: fades " + e, x.asks(1, 4, 1), value);
    }

    private static void values() {
        reads("60", 60);
        reads("61", 60);
        reads("9999", 60);
        reads("0 - 1", 0);
        reads("2 + 3 * 4", 14);
        reads("(2 + 3) * 4", 20);
        reads("20 - 5 - 3", 12);
        reads("20 - (5 - 3)", 18);
        reads("2 * 3 * 4", 24);
        reads("-2 * -3", 6);
        reads("10 - -3", 13);
        reads("- 2 + 10", 8);
        reads("1 < 2", 1);
        reads("2 < 2", 0);
        reads("3 < 2", 0);
        reads("2 = 2", 1);
        reads("2 = 3", 0);
        reads("1 + 1 = 2 * 1", 1);
        reads("3 or 4", 1);
        reads("0 or 4", 1);
        reads("4 or 0", 1);
        reads("0 or 0", 0);
        reads("3 and 4", 1);
        reads("3 and 0", 0);
        reads("0 and 3", 0);
        reads("0 and 0 or 1", 1);
        reads("1 or 0 and 0", 1);
        reads("0 and (0 or 1)", 0);
        reads("0 or 0 or -1", 1);
        reads("2 and 2 and 2", 1);
        reads("not 0", 1);
        reads("not 5", 0);
        reads("not not 5", 1);
        reads("not 1 = 2", 1);
        reads("not 0 and 0", 0);
        reads("(1 < 2) * 33", 33);
        reads("-1 < 0", 1);
        reads("9999 * 9999 * 9999 < 0", 1);
        reads("9999 * 9999 * 22 < 0", 1);
        reads("9999*9999*43+0 = 9999*9999*43", 1);
        reads("0017", 17);
        reads("1*strength+1*2", 31);
    }

    private static void names() {
        reads("strength", 29);
        reads("number", 3);
        reads("other", 7);
        reads("seats", 3);
        reads("year", 41);
        reads("apart", 3);
        StreetTillTen x = Due.street(2, 2, 1, 2, Due.NONE);
        Due.text(x, "meets seats+10*apart;fades seats+10*apart;sounds 10*seats;");
        x.force(1);
        Due.is("7: seats, not there", x.asks(4, 3, 0), 10);
        Due.is("7: apart, the other way", x.asks(3, 1, 0), 23);
        Due.is("7: fades, too", x.asks(2, 0, 1), 21);
        Due.is("7: sounds", x.told(0, 7), 30);
    }

    /** A TAPE that is full of tokens, each with work to do, has room in a TEXT. */
    private static void longestText() {
        StringBuilder e = new StringBuilder("0");
        while (e.length() < 135) {
            e.append("+1");
        }
        StreetTillTen x = Due.street(0, 0);
        String text = "meets " + e + ";fades 1;sounds 2";
        while (text.length() < 159) {
            text += " ";
        }
        Due.is("7: a full TAPE", Due.text(x, text + ";"), 1);
        x.force(1);
        Due.is("7: all of it", x.asks(0, 1, 0), 60);
        Due.is("7: its fades", x.asks(0, 1, 1), 1);
        Due.is("7: its sounds", x.told(0, 7), 2);
        String piled = "meets 0 or 1 and 1 < 1 + 1 * (0 or 1 and 1 < 1 + 1 * (0 or 1 and 1 < 1 + 1 * (0 or 1 and 1 < 1 + 1 * (1"
            + " and 1 < 1 + 1 * (0 or 1 < 2))))) ;fades 1;sounds 1;";
        Due.is("7: much that waits", Due.text(x, piled), 2);
        x.force(2);
        Due.is("7: all that waited", x.asks(0, 1, 0), 1);
    }

    private static void force() {
        StreetTillTen x = Due.street(0, 0);
        Due.is("8: no TEXT 1", x.force(1), Due.BAD);
        Due.is("8: TEXT 0", x.force(0), 0);
        Due.text(x, "meets 9;fades 8;sounds 7;");
        Due.text(x, "meets 6;fades 5;sounds 4;");
        Due.is("8: was 0", x.force(2), 0);
        Due.is("8: is 2", x.count(5), 2);
        Due.is("8: meets by it", x.asks(0, 1, 0), 6);
        Due.is("8: fades by it", x.asks(0, 1, 1), 5);
        Due.is("8: sounds by it", x.told(0, 7), 4);
        Due.is("8: was 2", x.force(1), 2);
        Due.is("8: meets by TEXT 1", x.asks(0, 1, 0), 9);
        Due.is("8: -1", x.force(-1), Due.BAD);
        Due.is("8: 3", x.force(3), Due.BAD);
        Due.is("8: 6", x.force(6), Due.BAD);
        Due.is("8: was 1", x.force(0), 1);
        Due.is("8: meets by TEXT 0", x.asks(0, 1, 0), 5);
        Due.is("8: fades by TEXT 0", x.asks(0, 1, 1), 2);
        Due.is("8: sounds by TEXT 0", x.told(0, 7), 2);
    }
}
