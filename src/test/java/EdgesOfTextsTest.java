/** Promises 6 to 8, sentence by sentence: THE TAPE, TOKENS, what is open, ints that wrap, the six TEXTS. */
public final class EdgesOfTextsTest {
    private static final int LEAST = Integer.MIN_VALUE, MOST = Integer.MAX_VALUE;
    // An E that is the greatest int: 9999 * 9999 is 99980001.
    private static final String TOP = "(9999*9999*21+9999*4790+8416)";

    public static void main(String[] args) {
        bytes();
        tapeIsFull();
        tapeIsEmptyThen();
        textsAreFull();
        firstByte();
        firstByteOfAnE();
        byteWithinAWord();
        blanks();
        digits();
        words();
        eachLetter();
        keysAreNoNames();
        endsTooEarly();
        cannotStandThere();
        theFirstFault();
        faultAtTheLastBytes();
        tapeOfTokens();
        nothingIsLeft();
        openAtMost();
        openTillItEnds();
        sixthOpen();
        notOpen();
        truths();
        order();
        wraps();
        bounds();
        seats();
        otherOne();
        force();
        Due.end();
    }

    private static String blanks(int n) {
        return " ".repeat(n);
    }

    // ---- 6

    private static void bytes() {
        Due.is("6: byte 0", Streets.busy().feed(0), 16);
        Due.is("6: byte 1", Streets.busy().feed(1), 16);
        Due.is("6: byte 254", Streets.busy().feed(254), 16);
        Due.is("6: byte 255", Streets.busy().feed(255), 16);
        for (int letter : new int[] {-1, 256, 'm' + 256, 'm' - 256, LEAST, MOST}) {
            Due.idle("6: no byte " + letter, y -> y.feed(letter), Due.BAD);
            Due.idle("6: BAD is ahead of FULL, " + letter, Streets::fullTape, y -> y.feed(letter), Due.BAD);
        }
    }

    private static void tapeIsFull() {
        StreetTillTen x = new StreetTillTen();
        for (int size = 1; size <= 159; size++) {
            x.feed(' ');
        }
        Due.is("6: 159 bytes", x.count(4), 159);
        Due.is("6: the last byte has room", x.feed(';'), 160);
        Due.is("6: no room for another one", x.feed(';'), Due.FULL);
        Due.is("6: 160 bytes", x.count(4), 160);
        Due.is("6: it is the last, indeed", x.text(), -259);
        for (int letter : new int[] {0, ' ', '1', ';', 255}) {
            Due.idle("6: FULL, " + letter, Streets::fullTape, y -> y.feed(letter), Due.FULL);
        }
    }

    private static void tapeIsEmptyThen() {
        StreetTillTen x = Streets.fullTape();
        Due.is("7: 160 bytes are a TEXT", x.text(), 3);
        Due.is("7: THE TAPE is empty then", x.count(4), 0);
        Due.is("7: and has room again", x.feed('%'), 1);
        Due.is("7: a FAULT", x.text(), -100);
        Due.is("7: THE TAPE is empty then, too", x.count(4), 0);
        Due.is("7: and has room again, too", x.feed('%'), 1);
        StreetTillTen y = Streets.busy();
        Due.is("7: of an empty TAPE the size is 0", new StreetTillTen().text(), -100);
        y.text();
        Due.is("7: of one that is empty again, too", y.text(), -100);
        Due.is("7: a FAULT makes no TEXT", y.count(3), 3);
        Due.is("7: nor is it a RULE", y.count(5), 2);
    }

    private static void textsAreFull() {
        StreetTillTen x = new StreetTillTen();
        for (int text = 1; text <= 5; text++) {
            Due.is("7: a FAULT takes no number, " + text, Due.text(x, "meets"), -105);
            Due.is("7: TEXT " + text, Due.text(x, "meets 1;fades 2;sounds " + text + ";"), text);
            Due.is("7: how many TEXTS", x.count(3), text + 1);
        }
        Due.is("7: no TEXT more has room", Due.text(x, "meets 1;fades 2;sounds 3;"), Due.FULL);
        Due.is("7: THE TAPE stays", x.count(4), 25);
        Due.is("7: six TEXTS", x.count(3), 6);
        Due.is("7: THE TAPE goes on", x.feed(';'), 26);
        Due.is("7: FULL is ahead of a FAULT", x.text(), Due.FULL);
        StreetTillTen y = Streets.full();
        Due.is("7: FULL by a full TAPE", y.text(), Due.FULL);
        Due.is("7: which stays", y.count(4), 160);
        Due.idle("7: FULL changes nothing", Streets::full, z -> z.text(), Due.FULL);
        StreetTillTen none = new StreetTillTen();
        for (int i = 0; i < 5; i++) {
            Due.text(none, "meets 1;fades 2;sounds 3;");
        }
        Due.is("7: FULL is ahead of an empty TAPE", none.text(), Due.FULL);
    }

    // ---- 7: TOKENS

    private static void fault(String text, int place) {
        StreetTillTen x = new StreetTillTen();
        Due.is("7: \"" + text + "\"", Due.text(x, text), -100 - place);
        Due.is("7: \"" + text + "\" leaves THE TAPE empty", x.count(4), 0);
        Due.is("7: \"" + text + "\" is no TEXT", x.count(3), 1);
    }

    private static void fine(String text) {
        StreetTillTen x = new StreetTillTen();
        Due.is("7: \"" + text + "\"", Due.text(x, text), 1);
        Due.is("7: \"" + text + "\" leaves THE TAPE empty, too", x.count(4), 0);
        Due.is("7: \"" + text + "\" is a TEXT", x.count(3), 2);
    }

    /** No byte but a blank can stand ahead of the first WORD. */
    private static void firstByte() {
        for (int letter = 0; letter < 256; letter++) {
            boolean isBlank = letter == 32 || letter == 10;
            Due.is("7: byte " + letter + " at first", textOf(letter, " meets 5;fades 2;sounds 1;"), isBlank ? 1 : -100);
        }
    }

    private static int textOf(int letter, String rest) {
        StreetTillTen x = new StreetTillTen();
        x.feed(letter);
        return Due.text(x, rest);
    }

    /** One byte as the E: NUMBERS are fine; what may begin an E is missed behind it; all else is a FAULT itself. */
    private static void firstByteOfAnE() {
        for (int letter = 0; letter < 256; letter++) {
            StreetTillTen x = new StreetTillTen();
            Due.feed(x, "meets ");
            x.feed(letter);
            boolean isDigit = letter >= 48 && letter <= 57;
            boolean goesOn = letter == 40 || letter == 45 || letter == 32 || letter == 10;
            int due = isDigit ? 1 : goesOn ? -107 : -106;
            Due.is("7: byte " + letter + " as an E", Due.text(x, ";fades 2;sounds 1;"), due);
        }
    }

    /** Only a .. z belong to a WORD: any other byte ends it. */
    private static void byteWithinAWord() {
        for (int letter = 0; letter < 256; letter++) {
            StreetTillTen x = new StreetTillTen();
            Due.feed(x, "meets year");
            x.feed(letter);
            boolean isSmall = letter >= 97 && letter <= 122;
            // A blank and a sign that two ONES may stand about are fine, and another ; is the end of the E.
            boolean isFine = letter == 32 || letter == 10;
            boolean joins = letter == 42 || letter == 43 || letter == 45 || letter == 60 || letter == 61 || letter == 59;
            int due = isSmall ? -106 : isFine ? 1 : joins ? -111 : -110;
            Due.is("7: byte " + letter + " behind a NAME", Due.text(x, ";fades 2;sounds 1;"), due);
        }
    }

    private static void blanks() {
        fine("meets5;fades2;sounds1;");
        fine("\n meets\n\n5 \n;\nfades  2\n;sounds 1 ;");
        fine("meets 5;fades 2;sounds 1;\n \n");
        fine(blanks(137) + "meets5;fades2;sounds1; ");
        fault("meets\t5;fades 2;sounds 1;", 5);
        fault("meets\r5;fades 2;sounds 1;", 5);
        fault("meets 5;fades 2;sounds 1;\r", 25);
        fault("meets 1 2;fades 2;sounds 1;", 8);
        fault("mee ts 1;fades 2;sounds 1;", 0);
        fault("meets ye\nar;fades 2;sounds 1;", 6);
        fault("meets year apart;", 11);
    }

    private static void digits() {
        fine("meets 0;fades 9;sounds 10;");
        fine("meets 9999;fades 0000;sounds 0009;");
        fault("meets 10000;fades 2;sounds 1;", 6);
        fault("meets 00000;fades 2;sounds 1;", 6);
        fault("meets 99999;fades 2;sounds 1;", 6);
        fault("meets 4294967296;fades 2;sounds 1;", 6);
        fault("meets 1;fades 12345;sounds 1;", 14);
        fault("meets 1;fades 1;sounds 12345;", 23);
        fault("meets 1+123456;", 8);
        fault("meets " + "1".repeat(154), 6);
        fault("12345", 0);
        is("9999 = 10 * 1000 - 1", 1);
        is("0060", 60);
        is("0000", 0);
    }

    private static void words() {
        fault("meet 5;", 0);
        fault("meetss 5;", 0);
        fault("Meets 5;", 0);
        fault("m", 0);
        fault("meets a;", 6);
        fault("meets z;", 6);
        fault("meets apar;", 6);
        fault("meets aparts;", 6);
        fault("meets strengt;", 6);
        fault("meets strengths;", 6);
        fault("meets numbe;", 6);
        fault("meets numbers;", 6);
        fault("meets othe;", 6);
        fault("meets others;", 6);
        fault("meets seat;", 6);
        fault("meets seatss;", 6);
        fault("meets yea;", 6);
        fault("meets years;", 6);
        fault("meets kind;", 6);
        fault("meets no 1;", 6);
        fault("meets nott 1;", 6);
        fault("meets 1 an 1;", 8);
        fault("meets 1 andd 1;", 8);
        fault("meets 1 o 1;", 8);
        fault("meets 1 orr 1;", 8);
        fault("meets 5;fade 2;", 8);
        fault("meets 5;fadess 2;", 8);
        fault("meets 5;fades 2;sound 1;", 16);
        fault("meets 5;fades 2;soundss 1;", 16);
        fault("meets " + "y".repeat(154), 6);
        fault("meets notnot 1;", 6);
        fine("meets 1or 1and 1;fades not(1)or not-1;sounds-1<year;");
    }

    /** Each WORD, with any one letter changed or gone, is neither KEY nor NAME. */
    private static void eachLetter() {
        String text = "meets strength+number+other;fades seats+year+apart;sounds not 1 or 1 and 1;";
        fine(text);
        for (int at = 0; at < text.length(); at++) {
            if (text.charAt(at) < 'a') {
                continue;
            }
            int first = at;
            while (first > 0 && text.charAt(first - 1) >= 'a') {
                first--;
            }
            char other = text.charAt(at) == 'z' ? 'a' : (char) (text.charAt(at) + 1);
            fault(text.substring(0, at) + other + text.substring(at + 1), first);
            fault(text.substring(0, at) + text.substring(at + 1), first);
            fault(text.substring(0, at) + "x" + text.substring(at), first);
        }
    }

    private static void keysAreNoNames() {
        String[] keys = {"meets", "fades", "sounds", "or", "and"};
        for (String key : keys) {
            fault("meets " + key + ";", 6);
            fault("meets 1 + " + key + ";", 10);
            fault("meets (" + key + ");", 7);
        }
        for (String key : new String[] {"meets", "fades", "sounds", "not"}) {
            fault("meets 1 " + key + " 1;fades 1;sounds 1;", 8);
        }
        for (String key : new String[] {"meets", "fades", "or", "and", "not", "year"}) {
            fault("meets 1;fades 1;" + key + " 1;", 16);
        }
        for (String key : new String[] {"meets", "sounds", "or", "and", "not", "year"}) {
            fault("meets 1;" + key + " 1;sounds 1;", 8);
        }
        for (String key : new String[] {"fades", "sounds", "or", "and", "not", "year"}) {
            fault(key + " 1;fades 1;sounds 1;", 0);
        }
        fault("meets not;", 9);
        String[] names = {"strength", "number", "other", "seats", "year", "apart"};
        for (String name : names) {
            fault(name + " 1;", 0);
            fault("meets 1 " + name, 8);
            fine("meets " + name + ";fades " + name + ";sounds " + name + ";");
        }
    }

    // ---- 7: FAULT

    /** Each beginning of a TEXT, cut behind any of its bytes: its size, or the WORD that is cut itself. */
    private static void endsTooEarly() {
        String text = "meets 5+(2) ;fades -1 < 2; sounds not 7 ;";
        for (int size = 0; size < text.length(); size++) {
            int word = size;
            while (word > 0 && text.charAt(word - 1) >= 'a' && text.charAt(word - 1) <= 'z') {
                word--;
            }
            boolean isWhole = size == word || !Character.isLetter(text.charAt(size));
            fault(text.substring(0, size), isWhole ? size : word);
        }
        fine(text);
        fault("   ", 3);
        fault("meets 5  ", 9);
        fault(blanks(160), 160);
        fault("meets 5;fades 2;sounds 1" + blanks(136), 160);
    }

    private static void cannotStandThere() {
        fault("meets 5;fades 2;sounds 1;;", 25);
        fault("meets 5;fades 2;sounds 1;meets", 25);
        fault("meets 5;fades 2;sounds 1;m", 25);
        fault(";", 0);
        fault("fades 2;meets 5;sounds 1;", 0);
        fault("sounds 1;", 0);
        fault("meets 5;sounds 1;fades 2;", 8);
        fault("meets 5 fades 2;", 8);
        fault("meets ;", 6);
        fault("meets 1 <;", 9);
        fault("meets < 1;", 6);
        fault("meets 1 < 2 < 3;", 12);
        fault("meets 1 < 2 = 3;", 12);
        fault("meets 1 = 2 = 3;", 12);
        fine("meets (1 < 2) < 3;fades 1 < (2 = 3);sounds 1;");
        fault("meets 1 < not 2;", 10);
        fault("meets 1 + not 2;", 10);
        fault("meets - not 2;", 8);
        fine("meets 1 + (not 2);fades -(not 2);sounds 1 and not 2;");
        fault("meets + 1;", 6);
        fault("meets 1 + + 1;", 10);
        fine("meets 1 + - 1;fades 1 - - 1;sounds 1 * - 1;");
        fault("meets 1 * * 1;", 10);
        fault("meets 1 or or 1;", 11);
        fault("meets 1 and;", 11);
        fault("meets 1 or and 1;", 11);
        fault("meets not and 1;", 10);
        fault("meets ();", 7);
        fault("meets (1;", 8);
        fault("meets 1);", 7);
        fault("meets (1));", 9);
        fault("meets (1 2);", 9);
        fault("meets (1)(2);", 9);
        fault("meets 2(1);", 7);
        fault("meets )1(;", 6);
        fault("meets (1;fades 2);", 8);
    }

    /** Of more than one the first, of whatever sort. */
    private static void theFirstFault() {
        fault("meets 1 2 %", 8);
        fault("meets % 1 2", 6);
        fault("meets 12345 % zzz", 6);
        fault("meets zzz 12345", 6);
        fault("meets 1 ((((((1", 8);
        fault("meets ((((((zzz", 11);
        fault("meets (((((zzz(", 11);
        fault("meets ) 12345", 6);
        fault("meets 1;fades;sounds 99999", 13);
        fault("% meets 1;", 0);
    }

    private static void faultAtTheLastBytes() {
        String text = "meets 5;fades 2;sounds 1;";
        fine(text + blanks(135));
        fault(text + blanks(134) + "5", 159);
        fault(text + blanks(133) + "5 ", 158);
        fault(blanks(159) + "5", 159);
        fault(blanks(155) + "meets", 160);
        fault(blanks(156) + "meet", 156);
        fault(blanks(155) + "12345", 155);
        fine(blanks(135) + text);
        StreetTillTen x = new StreetTillTen();
        Due.is("7: a byte that has no room is no part of it", Due.text(x, blanks(136) + text), -260);
    }

    /** As many TOKENS as there is room for bytes. */
    private static void tapeOfTokens() {
        fault(";".repeat(160), 0);
        fault("%".repeat(160), 0);
        fault("(".repeat(160), 0);
        fault("5".repeat(160), 0);
        fault("a".repeat(160), 0);
        fault("meets 5" + ";".repeat(153), 8);
        fault("meets " + "(".repeat(154), 11);
        fault("meets " + "-".repeat(154), 11);
        fault("meets 1" + "-1".repeat(76) + ";", 160);
        fault("meets 1;fades 1;sounds 1" + "-1".repeat(68), 160);
        fine("meets 1;fades 1;sounds 1" + "-1".repeat(67) + " ;");
    }

    /** What is read of a TEXT ahead of its FAULT is no part of the next one. */
    private static void nothingIsLeft() {
        String[] faults = {
            "%", "meets", "meets 9", "meets 9;fades 9;sounds 9;;", "meets 1;fades 1;sounds -1 %", "meets 1;fades 1;sounds not 1 %",
            "meets 1;fades 1;sounds 1+1+1+1+1+1+1+1 %", "meets 9*9*9*9*9*9*9*9 %", "meets ((((1 %", "meets 12345", "meets aaaaaaaaaaaa",
        };
        for (String f : faults) {
            StreetTillTen x = Due.street(0, 0);
            Due.is("7: a FAULT: " + f, Due.text(x, f) <= -100 ? 1 : 0, 1);
            Due.is("7: a TEXT behind " + f, Due.text(x, "meets 3;fades 4;sounds 5;"), 1);
            x.force(1);
            Due.is("7: meets behind " + f, x.asks(0, 1, 0), 3);
            Due.is("7: fades behind " + f, x.asks(0, 1, 1), 4);
            Due.is("7: sounds behind " + f, x.told(0, 7), 5);
            x.force(0);
            Due.is("7: TEXT 0 behind " + f, x.asks(0, 1, 0), 5);
        }
    }

    // ---- 7: what is open

    private static final String[] OPENED = {"(((((", "-----", "-(-(-", "((-((", "not not not not not ", "not not (-(", "(not (-(", "not(not(not "};
    private static final String[] CLOSED = {")))))", "", "))", "))))", "", "))", ")))", "))"};

    private static void openAtMost() {
        for (int i = 0; i < OPENED.length; i++) {
            fine("meets " + OPENED[i] + "1" + CLOSED[i] + ";fades 1;sounds 1;");
            fine("meets 1;fades " + OPENED[i] + "1" + CLOSED[i] + ";sounds 1;");
            fine("meets 1;fades 1;sounds " + OPENED[i] + "1" + CLOSED[i] + ";");
        }
    }

    /** While 5 are open, a sixth can't stand, be it (, - or not; what joins two ONES can. */
    private static void sixthOpen() {
        for (int i = 0; i < OPENED.length; i++) {
            int place = 6 + OPENED[i].length();
            fault("meets " + OPENED[i] + "(1)" + CLOSED[i] + ";fades 1;sounds 1;", place);
            fault("meets " + OPENED[i] + "-1" + CLOSED[i] + ";fades 1;sounds 1;", place);
            fault("meets " + OPENED[i] + "not 1" + CLOSED[i] + ";fades 1;sounds 1;", place);
            fine("meets " + OPENED[i] + "1 - 1" + CLOSED[i] + ";fades 1;sounds 1;");
            fine("meets " + OPENED[i] + "1 * 1 < 1" + CLOSED[i] + ";fades 1;sounds 1;");
        }
        fault("meets ((((((1))))));", 11);
        fault("meets 1;fades ((((((1))))));", 19);
        fault("meets 1;fades 1;sounds ((((((1))))));", 28);
        fault("meets (((((1 + (2))))));", 15);
        fault("meets (((((1 < -2)))));", 15);
        fault("meets (((((1 and not 2)))));", 17);
    }

    /** A ( is open till its ), a not and a - till what they belong to ends. */
    private static void openTillItEnds() {
        fine("meets (((((1)))))+(((((1)))))*(((((1)))));fades (((((1)))));sounds (((((1)))));");
        fine("meets -----1+-----1--1;fades -----1;sounds -----1;");
        fine("meets -1+(((((1)))));fades -(1)*(((((1)))));sounds -1<(((((1)))));");
        fine("meets not 1 and (((((1)))));fades not 1 or (((((1)))));sounds not 1=1 and -----1;");
        fine("meets not not 1 and not not not not not 1;fades 1;sounds 1;");
        fine("meets ((1)+(((1))))+((((1))));fades 1;sounds 1;");
        // The SUMS that are compared belong to the not: it is still open at the second one.
        fine("meets not 1 < ((((1))));fades not 1 + ((((1))));sounds not 1 * ((((1))));");
        fault("meets not 1 < (((((1)))));", 18);
        fault("meets not 1 + (((((1)))));", 18);
        fault("meets not 1 * -----1;", 18);
        // A - belongs to a ONE: what it is multiplied by is not in it.
        fine("meets (-1*((((1)))));fades (-1+-(-(1)));sounds (-1+-(-(1+1)));");
        fault("meets (-1*((((1)))));fades (-1+-(-(--1)));", 35);
        fault("meets (-1*(((((1))))));", 14);
        fine("meets (((((1)+1)+1)+1)+1);fades ((((1)+(1))+(1))+(1));sounds 1;");
        fault("meets (1+(1+(1+(1+(1+(1))))));", 21);
        fine("meets (1+(1+(1+(1+(1+1)))));fades 1;sounds 1;");
    }

    private static void notOpen() {
        StringBuilder many = new StringBuilder("1");
        while (many.length() < 130) {
            many.append("+(1)");
        }
        fine("meets " + many + ";fades 1;sounds 1;");
        fine("meets " + many.toString().replace("+(1)", "--1") + ";fades 1;sounds 1;");
        fine("meets not 1" + " and not 1".repeat(12) + ";fades 1;sounds 1;");
        fine("meets not 1" + " or not 1".repeat(12) + ";fades 1;sounds 1;");
    }

    // ---- 7: what an E is

    private static void is(String e, int value) {
        is(e, e, value);
    }

    /** Told as meets and as fades of HOUSE 0 with 1, and as sounds of HOUSE 0. */
    private static void is(String name, String e, int value) {
        StreetTillTen x = Due.street(0, 1);
        x.force(Due.text(x, "meets " + e + ";fades 1;sounds 1;"));
        Due.is("7: meets " + name, x.asks(0, 1, 0), value);
        x.force(Due.text(x, "meets 1;fades " + e + ";sounds 1;"));
        Due.is("7: fades " + name, x.asks(0, 1, 1), value);
        x.force(Due.text(x, "meets 1;fades 1;sounds " + e + ";"));
        Due.is("7: sounds " + name, x.told(0, 7), value);
        Due.is("7: three TEXTS of " + name, x.count(3), 4);
    }

    private static void truths() {
        is("not 0", 1);
        is("not 1", 0);
        is("not 2", 0);
        is("not -1", 0);
        is("2 and 4", 1);
        is("-1 and -2", 1);
        is("0 and 7", 0);
        is("7 and 0", 0);
        is("0 or -7", 1);
        is("-7 or 0", 1);
        is("0 or 0", 0);
        is("1 or 2", 1);
        is("not not 7", 1);
        is("4 < 4", 0);
        is("3 < 4", 1);
        is("5 < 4", 0);
        is("-1 < 0", 1);
        is("0 < -1", 0);
        is("4 = 4", 1);
        is("3 = 4", 0);
        is("5 = 4", 0);
        is("(4 = 4) + (3 < 4)", 2);
        // What isn't true is 0, what is true is 1.
        is("(0 or 0) + 5", 5);
        is("(0 and 7) + 5", 5);
        is("(not 7) + 5", 5);
        is("(4 < 4) + 5", 5);
        is("(3 = 4) + 5", 5);
        is("(7 or 0) + 5", 6);
        is("(7 and 9) + 5", 6);
        is("(not 0) + 5", 6);
        is("(4 < 9) + 5", 6);
        is("(4 = 4) + 5", 6);
    }

    private static void order() {
        is("1 or 0 and 0", 1);
        is("0 and 0 or 1", 1);
        is("not 0 or 1", 1);
        is("not 1 and 0", 0);
        is("not 1 or 1", 1);
        is("not 2 = 1", 1);
        is("not 0 < 1", 0);
        is("1 + 2 * 3", 7);
        is("2 * 3 + 1", 7);
        is("9 - 4 - 3", 2);
        is("9 - (4 - 3)", 8);
        is("-2 * -3", 6);
        is("10 - 2 * 3", 4);
        is("-3 + 10", 7);
        is("1 + 1 < 3", 1);
        is("1 < 1 + 1", 1);
        is("3 = 1 and 1", 0);
        is("0 = 0 or 0", 1);
    }

    private static void wraps() {
        is("the greatest", TOP, 60);
        is("above 0, the greatest", "0<" + TOP, 1);
        is("the greatest and 1", TOP + "+1<0", 1);
        is("the greatest and 2, less the greatest", TOP + "+2+" + TOP + "-60", 0);
        is("twice the greatest is -2", TOP + "*2+9", 7);
        is("the least, less 1", "0-" + TOP + "-2", 60);
        is("the least", "0-" + TOP + "-1", 0);
        is("the least isn't above 0 when it is turned", "-(-" + TOP + "-1)<0", 1);
        is("the least, taken -1 times", "(-" + TOP + "-1)*-1<0", 1);
        is("the least is below the greatest", "-" + TOP + "-1<" + TOP, 1);
        is("the greatest is not below the least", TOP + "<-" + TOP + "-1", 0);
        is("the least is true", "not(-" + TOP + "-1)", 0);
        is("2 to the 32nd is 0", "4096*4096*256=0", 1);
        is("2 to the 32nd is false", "not 4096*4096*256", 1);
        is("2 to the 31st is below 0", "4096*4096*128<0", 1);
        is("2 to the 31st is below 0 also as a sum", "4096*4096*64+4096*4096*64<0", 1);
        is("2 to the 32nd and 5", "4096*4096*256+5", 5);
        is("as it wraps, so it is alike", "4096*4096*257=4096*4096", 1);
    }

    private static void bounds() {
        is("0", 0);
        is("1", 1);
        is("-1", 0);
        is("59", 59);
        is("60", 60);
        is("61", 60);
        is("9999", 60);
        is("0 - 9999", 0);
        // Within an E there is no bound.
        is("61 - 60", 1);
        is("0 - 60 + 61", 1);
        is("(100 - 99) * 7", 7);
    }

    private static void seats() {
        StreetTillTen x = Due.street(0, 0, 3, Due.NONE, Due.NONE);
        x.force(Due.text(x, "meets seats;fades seats;sounds seats;"));
        int[] due = {2, 2, 1, 0, 0};
        for (int of = 0; of < 5; of++) {
            Due.is("7: seats, meets of " + of, x.asks(of, (of + 1) % 5, 0), due[of]);
            Due.is("7: seats, fades of " + of, x.asks(of, (of + 1) % 5, 1), due[of]);
            Due.is("7: seats, sounds of " + of, x.told(of, 7), due[of]);
        }
        StreetTillTen all = Streets.alike(8, 0);
        all.force(Due.text(all, "meets seats;fades 1;sounds seats;"));
        Due.is("7: eight seats, meets", all.asks(7, 0, 0), 8);
        Due.is("7: eight seats, sounds", all.told(7, 7), 8);
    }

    private static void otherOne() {
        StreetTillTen x = Due.street(0, 1, 2, 3, Due.NONE, 0, 1, 2);
        for (int i = 0; i < 8; i++) {
            x.set(2, i, i + 2 - i / 4 * 2);
        }
        x.set(2, 0, 0);
        x.set(2, 7, 9);
        x.set(0, 0, 999);
        x.bind(0, 7, 40);
        x.force(Due.text(x, "meets number+3*other;fades apart;sounds 1;"));
        Due.is("7: number of the one, other of the other", x.asks(0, 7, 0), 27);
        Due.is("7: the other way", x.asks(7, 0, 0), 9);
        Due.is("7: apart 7", x.asks(0, 7, 1), 7);
        Due.is("7: apart 7, the other way", x.asks(7, 0, 1), 7);
        Due.is("7: apart 1", x.asks(3, 4, 1), 1);
        Due.is("7: apart 1, the other way", x.asks(4, 3, 1), 1);
        x.force(Due.text(x, "meets strength;fades year-950;sounds year-939;"));
        Due.is("7: strength", x.asks(0, 7, 0), 40);
        Due.is("7: strength, the other way", x.asks(7, 0, 0), 40);
        Due.is("7: strength of others", x.asks(0, 6, 0), 0);
        Due.is("7: year", x.asks(0, 7, 1), 49);
        Due.is("7: year of sounds", x.told(0, 7), 60);
    }

    // ---- 8

    private static void force() {
        for (int text : new int[] {-1, 3, 4, 5, 6, 256, LEAST, MOST}) {
            Due.idle("8: no TEXT " + text, y -> y.force(text), Due.BAD);
        }
        Due.is("8: the first", Streets.busy().force(0), 2);
        Due.is("8: the last", Streets.busy().force(2), 2);
        StreetTillTen full = Streets.full();
        Due.is("8: TEXT 5 of six", full.force(5), 2);
        Due.is("8: TEXT 5 was", full.force(0), 5);
        Due.idle("8: no TEXT 6 of six", Streets::full, y -> y.force(6), Due.BAD);
        StreetTillTen x = new StreetTillTen();
        Due.is("8: none but TEXT 0 at first", x.force(1), Due.BAD);
        Due.is("8: THE RULE again", x.force(0), 0);
        Due.text(x, "meets");
        Due.is("8: a FAULT is no TEXT", x.force(1), Due.BAD);
    }
}
