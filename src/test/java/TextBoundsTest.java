/** Boundary cases of texts: "Terms", part 2, and promises 8 to 11 (feed, end, text, fault). */
public final class TextBoundsTest {
    private static final int NONE = VotedBank.NONE;
    private static final String[] LINES = {"sway 1;", "passenger 1 hears 0;", "row 0;", "bank 1 behind 1 is 2;"};
    private static final String[] STARTS = {"sway", "passenger", "row", "bank"};
    private static final String[][] KEYWORDS = {
        {"sway", "abstain", "shells", "when", "or", "and", "not", "child", "talk", "firm", "waded", "turned", "bank",
            "age", "stream", "minute", "aboard", "for"},
        {"passenger", "hears"}, {"row", "stay"}, {"bank", "behind", "is"}};

    private TextBoundsTest() {
    }

    public static void main(String[] args) {
        tapeGrows();
        bytesComeInOrder();
        tapeIsCut();
        textTakesTheTape();
        textStaysByAFault();
        faultOfTheLatest();
        emptyTexts();
        fullTexts();
        sixteenLines();
        seventeenthLine();
        everySign();
        keywordsOfEachText();
        lettersStandTogether();
        digitsStandTogether();
        blanksStandBetween();
        theEndIsTheLength();
        whatCanStandInTheLaw();
        whatCanStandInOthers();
        partsByNought();
        landsAndAges();
        passengersThatAreNot();
        theSameOneAgain();
        toStayOneRows();
        eightAreOpen();
        closedOnesAreNotOpen();
        firstByPlace();
        leastAtOnePlace();
        Due.end();
    }

    private static VotedBank bank(int passengers) {
        VotedBank x = new VotedBank();
        for (int p = 0; p < passengers; p++) {
            x.passenger(12345, false, 0, 0);
        }
        return x;
    }

    private static int blanks(VotedBank x) {
        return x.feed(0x20202020, 0x20202020, 0x20202020, 0x20202020, 0x20202020);
    }

    // ---- the tape

    private static void tapeGrows() {
        Due.about("Promise 8, feed");
        VotedBank x = new VotedBank();
        for (int has = 20; has <= 400; has += 20) {
            Due.due("of nothing to 400", blanks(x), has);
        }
        Due.due("would be 420", blanks(x), NONE);
        Due.due("nothing came", x.end(401), false);
        Due.due("it has 400", x.end(400), true);
        for (int has : new int[] {399, 390, 382, 381}) {
            Due.due("end(" + has + ")", x.end(has), true);
            Due.due("would be " + (has + 20), blanks(x), NONE);
            Due.due("nothing came", x.end(has + 1), false);
        }
        Due.due("end(380)", x.end(380), true);
        Due.due("400 are not more than 400", blanks(x), 400);
        Due.due("end(379)", x.end(379), true);
        Due.due("to 399", blanks(x), 399);
        Due.due("end(0)", x.end(0), true);
        Due.due("from 0", blanks(x), 20);
    }

    private static void bytesComeInOrder() {
        Due.about("Promise 8, of each number the highest first");
        VotedBank x = bank(1);
        // "shel" "ls 4" ";swa" "y   " "77;\n"
        Due.due("twenty bytes", x.feed(0x7368656c, 0x6c732034, 0x3b737761, 0x79202020, 0x37373b0a), 20);
        Due.due("two lines", x.text(0), 2);
        Due.due("shells", x.of(0, 8), 4);
        Due.due("sway", x.sway(0, 0), 77);
        for (int place = 0; place < 20; place++) {
            int[] five = {0x20202020, 0x20202020, 0x20202020, 0x20202020, 0x20202020};
            // A byte of 0xff: a number below 0 where it is the highest one.
            five[place / 4] |= 0xff << 24 - 8 * (place % 4);
            Due.due("twenty bytes", x.feed(five[0], five[1], five[2], five[3], five[4]), 20);
            Due.due("one that is none", x.text(0), NONE);
            Due.due("at its place", x.fault(1), place);
        }
        Due.due("behind what it has", blanks(x), 20);
        Due.due("behind what it has", x.feed(0x20200000, 0, 0, 0, 0), 40);
        Due.due("text(0)", x.text(0), NONE);
        Due.due("place", x.fault(1), 22);
    }

    private static void tapeIsCut() {
        Due.about("Promise 9, end");
        VotedBank x = bank(1);
        Due.due("0 of none", x.end(0), true);
        Due.due("1 of none", x.end(1), false);
        Due.feed(x, "shells 5;shells 6;");
        Due.due("has not so many", x.end(19), false);
        Due.due("all", x.end(18), true);
        Due.due("below 0", x.end(-1), false);
        Due.due("unchanged", x.end(19) ? 1 : x.text(0), 2);
        Due.feed(x, "shells 5;shells 6;");
        Due.due("its first 17", x.end(17), true);
        Due.due("18 are gone", x.end(18), false);
        Due.due("the end stands where ; stood", x.text(0) + x.fault(1), NONE + 17);
        Due.feed(x, "shells 5;shells 6;");
        Due.due("its first 9", x.end(9), true);
        Due.due("the first alone", x.text(0), 1);
        Due.feed(x, "shells 5;shells 6;");
        Due.due("none", x.end(0), true);
        Due.due("nothing is left", x.end(1), false);
        Due.due("no line", x.text(0), 0);
        Due.feed(x, "shells 5;");
        x.end(7);
        x.feed(0x373b2020, 0x20202020, 0x20202020, 0x20202020, 0x20202020);
        Due.due("what comes stands behind the cut", x.text(0), 1);
        Due.due("shells 7", x.of(0, 8), 7);
    }

    // ---- texts as a whole

    private static void textTakesTheTape() {
        Due.about("Promise 10, the TAPE, empty then, is TEXT k");
        VotedBank x = bank(2);
        for (int k = 0; k <= 3; k++) {
            Due.tells(x, k, LINES[k] + LINES[k], 2);
            Due.due("empty", x.end(1), false);
            Due.due("lines of text " + k, x.look(9 + k), 2);
            for (int other = k + 1; other <= 3; other++) {
                Due.due("text " + other + " is not told yet", x.look(9 + other), 0);
            }
        }
        for (int k = 0; k <= 3; k++) {
            Due.tells(x, k, LINES[k], 1);
            Due.due("what was told is gone", x.look(9 + k), 1);
            Due.due("text " + k + " of nothing", x.text(k), 0);
            Due.due("no line", x.look(9 + k), 0);
        }
        Due.due("nobody is heard", x.of(1, 7), 0);
        Due.due("no season", x.season(1, 0), NONE);
        Due.due("the log is empty", x.log(), 0);
        Due.due("the law is empty", x.sway(0, 0), 300);
        for (int k : new int[] {-1, 4, Integer.MIN_VALUE, Integer.MAX_VALUE}) {
            Due.faults(x, 0, "?", 1, 0);
            Due.feed(x, "sway 1;");
            Due.due("no text " + k, x.text(k), NONE);
            Due.due("fault() tells 0", x.fault(0), 0);
            Due.due("of no place", x.fault(1), NONE);
            Due.due("the tape is empty", x.end(1), false);
        }
    }

    private static void textStaysByAFault() {
        Due.about("Promise 10, by a FAULT it stays as it was");
        VotedBank x = bank(3);
        Due.tells(x, 0, "shells 4;sway 55;", 2);
        Due.tells(x, 1, "passenger 0 hears 1;passenger 2 hears 0;", 2);
        Due.tells(x, 2, "row 0;row 1 2 stay 1;row 2;", 3);
        Due.tells(x, 3, "bank 4 behind 9 is 3;", 1);
        Due.faults(x, 0, "shells 9;sway 1;abstain 3;abstain", 1, 33);
        Due.faults(x, 1, "passenger 0 hears 2;passenger 1 hears 3;", 2, 38);
        Due.faults(x, 2, "row 0 1 stay 0;row 0 stay 1;", 2, 26);
        Due.faults(x, 3, "bank 4 behind 8 is 2;bank 5 behind 1 is 0;bank 0 behind 1 is 6;", 2, 61);
        int[] lines = {2, 2, 3, 1};
        for (int k = 0; k <= 3; k++) {
            Due.due("lines of text " + k, x.look(9 + k), lines[k]);
        }
        Due.due("shells", x.of(0, 8), 4);
        Due.due("abstain", x.of(0, 9), 0);
        Due.due("sway", x.sway(0, 1), 55);
        Due.due("0 hears", x.of(0, 7), 2);
        Due.due("1 hears", x.of(1, 7), 0);
        Due.due("2 hears", x.of(2, 7), 1);
        Due.due("season(4, 0)", x.season(4, 0), 9);
        Due.due("season(4, 1)", x.season(4, 1), 3);
        Due.due("season(5, 0)", x.season(5, 0), NONE);
        Due.due("log()", x.log(), 3);
        Due.due("over", x.look(6), 2);
    }

    private static void faultOfTheLatest() {
        Due.about("Promise 11, fault");
        VotedBank x = bank(1);
        Due.due("ahead of any text", x.fault(0), 0);
        Due.due("ahead of any text", x.fault(1), NONE);
        Due.faults(x, 0, "?", 1, 0);
        Due.faults(x, 3, "bank 6", 2, 5);
        Due.faults(x, 2, LINES[2].repeat(17), 3, 96);
        blanks(x);
        x.end(5);
        x.set(0, 0, 1);
        x.cross(1);
        x.undo();
        x.image(true);
        x.image(false);
        Due.due("of the latest text() whatever came behind it", x.fault(0), 3);
        Due.due("of the latest text() whatever came behind it", x.fault(1), 96);
        for (int what : new int[] {-1, 2, 3, Integer.MIN_VALUE, Integer.MAX_VALUE}) {
            Due.due("another what", x.fault(what), NONE);
        }
        x.text(0);
        Due.due("0 without one", x.fault(0), 0);
        Due.due("NONE without one", x.fault(1), NONE);
    }

    private static void emptyTexts() {
        Due.about("Promise 10, an empty text");
        for (int k = 0; k <= 3; k++) {
            VotedBank x = bank(2);
            Due.tells(x, k, "", 0);
            Due.tells(x, k, " ", 0);
            Due.tells(x, k, "\n", 0);
            Due.tells(x, k, " \n".repeat(200), 0);
            Due.faults(x, k, ";", 1, 0);
        }
    }

    private static void fullTexts() {
        Due.about("Promise 10, a text of 400 bytes");
        VotedBank x = bank(1);
        for (int i = 0; i < 6; i++) {
            Due.tells(x, 0, "sway1" + "+1".repeat(197) + ";", 1);
            Due.due("198 ones", x.sway(0, 0), 198);
            Due.tells(x, 0, "sway 2" + "*1".repeat(195) + "+7;", 1);
            Due.due("2 times ones and 7", x.sway(0, 0), 9);
            Due.tells(x, 0, "sway 3when1=1" + "and 1=1".repeat(55) + ";", 1);
            Due.due("all are so", x.sway(0, 0), 3);
        }
        VotedBank y = bank(12);
        for (String sign : new String[] {";", "+", "(", "<", "?"}) {
            for (int k = 0; k <= 3; k++) {
                Due.faults(y, k, sign.repeat(400), 1, 0);
            }
        }
        Due.faults(bank(1), 0, "sway 1" + ";".repeat(394), 1, 7);
        Due.faults(bank(1), 0, "sway 1 when" + "(".repeat(389), 3, 19);
        Due.faults(bank(1), 0, "sway " + "1+".repeat(197) + "1", 1, 400);
    }

    // ---- lines

    private static void sixteenLines() {
        Due.about("Terms 2, 16 lines of each at most");
        for (int k = 0; k <= 3; k++) {
            VotedBank x = bank(2);
            for (int n : new int[] {1, 15, 16}) {
                Due.tells(x, k, LINES[k].repeat(n), n);
                Due.due("look(" + (9 + k) + ")", x.look(9 + k), n);
            }
            Due.tells(x, k, LINES[k].repeat(16) + " \n", 16);
        }
        VotedBank x = bank(12);
        Due.tells(x, 0, "sway 1 when 1=2;".repeat(15) + "sway 16;", 16);
        Due.due("the 16th line of the law", x.sway(0, 0), 16);
        Due.tells(x, 1, "passenger 1hears0;".repeat(15) + "passenger 3hears2;", 16);
        Due.due("the 16th line of ears", x.of(3, 7), 4);
        Due.tells(x, 2, "row 0;".repeat(15) + "row 5 11 stay 11;", 16);
        Due.due("16 crossings", x.log(), 16);
        Due.due("the 16th line of the log", x.look(6), 2048);
        Due.tells(x, 3, LINES[3].repeat(15) + "bank 5 behind 7 is 4;", 16);
        Due.due("the 16th line of seasons", x.season(5, 0), 7);
    }

    private static void seventeenthLine() {
        Due.about("Terms 2, 3 (at its KEYWORD) the 17th line of a text");
        for (int k = 0; k <= 3; k++) {
            VotedBank x = bank(2);
            String sixteen = LINES[k].repeat(16);
            int end = sixteen.length();
            Due.faults(x, k, sixteen + LINES[k], 3, end);
            Due.faults(x, k, sixteen + " \n " + STARTS[k], 3, end + 3);
            Due.faults(x, k, sixteen + STARTS[k] + " ?", 3, end);
            Due.faults(x, k, sixteen + ";", 1, end);
            Due.faults(x, k, sixteen + STARTS[k] + "x", 1, end);
            Due.faults(x, k, sixteen + STARTS[(k + 1) % 4], 1, end);
            Due.faults(x, k, sixteen + "7", 1, end);
            Due.faults(x, k, LINES[k].repeat(15) + "?;" + STARTS[k], 1, 15 * LINES[k].length());
            Due.due("none of them was taken", x.look(9 + k), 0);
        }
        VotedBank x = bank(1);
        Due.faults(x, 0, "sway 1;".repeat(16) + "abstain 1;", 3, 112);
        Due.faults(x, 0, "sway 1;".repeat(16) + "shells 1;", 3, 112);
        Due.faults(x, 0, "sway 1;abstain 1;shells 1;".repeat(5) + "sway 1;sway 1;", 3, 137);
        Due.faults(x, 0, "sway 1;".repeat(16) + "talk", 1, 112);
    }

    // ---- tokens

    private static void everySign() {
        Due.about("Terms 2, TOKENS: letters, digits, ten signs, blanks (32, 10)");
        for (int sign = 0; sign <= 255; sign++) {
            VotedBank x = bank(1);
            char c = (char) sign;
            boolean isLetter = c >= 'a' && c <= 'z' || c >= 'A' && c <= 'Z';
            boolean isDigit = c >= '0' && c <= '9';
            if (sign == 32 || sign == 10 || isDigit) {
                Due.tells(x, 0, "sway" + c + "1;", 1);
                Due.due("what it tells", x.sway(0, 0), isDigit ? 10 * (c - '0') + 1 : 1);
            } else {
                Due.faults(x, 0, "sway" + c + "1;", 1, isLetter ? 0 : 4);
            }
            if (sign == 32 || sign == 10) {
                Due.tells(x, 0, c + "sway 1" + c + ";" + c, 1);
            } else {
                Due.faults(x, 0, c + "sway 1;", 1, 0);
                if (c == ';') {
                    Due.tells(x, 0, "sway 1" + c, 1);
                } else {
                    boolean goesOn = isDigit || "+-*/".indexOf(c) >= 0;
                    Due.faults(x, 0, "sway 1" + c, 1, goesOn ? 7 : 6);
                }
            }
        }
    }

    private static void keywordsOfEachText() {
        Due.about("Terms 2, KEYWORDS are those told for that text");
        for (int k = 0; k <= 3; k++) {
            VotedBank x = bank(2);
            for (int other = 0; other <= 3; other++) {
                for (String word : KEYWORDS[other]) {
                    boolean starts = word.equals(STARTS[k]) || k == 0 && (word.equals("abstain") || word.equals("shells"));
                    Due.faults(x, k, word, 1, starts ? word.length() : 0);
                }
            }
        }
        VotedBank x = bank(2);
        Due.tells(x, 0, "sway bank+child+talk+firm+waded+turned+age+stream+minute+aboard+for;", 1);
        for (String word : new String[] {"passenger", "hears", "row", "stay", "behind", "is", "land", "number"}) {
            Due.faults(x, 0, "sway " + word + ";", 1, 5);
        }
        for (String word : new String[] {"sway", "abstain", "shells", "when", "or", "and", "not"}) {
            Due.faults(x, 0, "sway " + word + ";", 1, 5);
        }
    }

    private static void lettersStandTogether() {
        Due.about("Terms 2, letters as many as stand together");
        VotedBank x = bank(2);
        Due.faults(x, 0, "swayfor;", 1, 0);
        Due.faults(x, 0, "swa y 1;", 1, 0);
        Due.faults(x, 0, "SWAY 1;", 1, 0);
        Due.faults(x, 0, "swaY 1;", 1, 0);
        Due.faults(x, 0, "s 1;", 1, 0);
        Due.faults(x, 0, "sway forfor;", 1, 5);
        Due.faults(x, 0, "sway fo;", 1, 5);
        Due.faults(x, 0, "sway 1 when notchild=1;", 1, 12);
        Due.faults(x, 0, "sway 1 when 1=child or", 1, 22);
        Due.faults(x, 0, "sway 1 when 1=childor 1=1;", 1, 14);
        Due.faults(x, 1, "passengers 1 hears 0;", 1, 0);
        Due.faults(x, 1, "passenge 1 hears 0;", 1, 0);
        Due.faults(x, 1, "passenger 1 hear 0;", 1, 12);
        Due.faults(x, 2, "ro 1;", 1, 0);
        Due.faults(x, 2, "row 1 stays 1;", 1, 6);
        Due.faults(x, 3, "bank 1 behin 1 is 2;", 1, 7);
        Due.faults(x, 3, "bank 1 behind 1 iss 2;", 1, 16);
        Due.faults(x, 3, "bank 1 behind 1 i 2;", 1, 16);
        Due.faults(x, 0, "sway " + "f".repeat(395), 1, 5);
    }

    private static void digitsStandTogether() {
        Due.about("Terms 2, NUMBERS of 1 to 4 digits");
        VotedBank x = bank(2);
        String[] right = {"0", "9", "10", "999", "0000", "0999"};
        int[] told = {0, 9, 10, 999, 0, 999};
        for (int i = 0; i < right.length; i++) {
            Due.tells(x, 0, "sway " + right[i] + ";", 1);
            Due.due("sway " + right[i], x.sway(0, 1), told[i]);
        }
        Due.tells(x, 0, "sway 9999-9000;", 1);
        Due.due("sway 9999-9000", x.sway(0, 1), 999);
        for (String wrong : new String[] {"00000", "10000", "99999", "00001", "2147483647", "4294967296", "0".repeat(395)}) {
            Due.faults(x, 0, "sway " + wrong, 1, 5);
        }
        Due.tells(x, 1, "passenger 0001 hears 0000;", 1);
        Due.faults(x, 1, "passenger 00001 hears 0;", 1, 10);
        Due.faults(x, 1, "passenger 1 hears 00000;", 1, 18);
        Due.tells(x, 2, "row 0000 0001 stay 0001;", 1);
        Due.faults(x, 2, "row 00000;", 1, 4);
        Due.faults(x, 2, "row 0 00001;", 1, 6);
        Due.faults(x, 2, "row 0 stay 00000;", 1, 11);
        Due.tells(x, 3, "bank 0005 behind 0099 is 0000;", 1);
        Due.faults(x, 3, "bank 00005 behind 1 is 2;", 1, 5);
        Due.faults(x, 3, "bank 5 behind 00001 is 2;", 1, 14);
        Due.faults(x, 3, "bank 5 behind 1 is 00002;", 1, 19);
        Due.faults(x, 0, "sway 1 2;", 1, 7);
        Due.faults(x, 0, "sway 1/00000;", 1, 7);
    }

    private static void blanksStandBetween() {
        Due.about("Terms 2, blanks between");
        VotedBank x = bank(2);
        Due.tells(x, 0, "sway1when1=1and2=2or not(3<4)and4>3;", 1);
        Due.tells(x, 0, "\n sway\n1 +\n2\n*3 /1 when ( 1 = 1 ) ; \n", 1);
        Due.due("1 + 2 * 3", x.sway(0, 0), 7);
        Due.tells(x, 1, "passenger0hears1;passenger\n1 hears\n 0\n;", 2);
        Due.tells(x, 2, "row0 1stay0\n1;row1;", 2);
        Due.tells(x, 3, "bank1behind2is3;bank \n2 behind 3\nis 4 ;", 2);
        Due.faults(x, 2, "row 01 0\n0;", 2, 9);
        Due.faults(x, 0, "sway 1\r;", 1, 6);
        Due.faults(x, 0, "sway\t1;", 1, 4);
    }

    // ---- fault 1

    private static void theEndIsTheLength() {
        Due.about("Terms 2, FAULT 1 at the end: the text's length");
        String[][] whole = {{"sway", " 1", " +", " 2", " *", " talk", " /", " 3", " when", " not", " (", " 1", " <", " 2",
            " and", " 3", " =", " 3", " )", " or", " 4", " >", " 3"},
            {"passenger", " 1", " hears", " 0"}, {"row", " 0", " 1", " stay", " 1", " 0"},
            {"bank", " 1", " behind", " 2", " is", " 3"}};
        for (int k = 0; k <= 3; k++) {
            StringBuilder text = new StringBuilder();
            VotedBank x = bank(2);
            for (String part : whole[k]) {
                text.append(part);
                Due.faults(x, k, text.toString(), 1, text.length());
                Due.faults(x, k, text + " \n ", 1, text.length() + 3);
            }
            Due.tells(x, k, text + ";", 1);
            Due.faults(x, k, text + " ".repeat(400 - text.length()), 1, 400);
            Due.tells(x, k, text + ";" + " ".repeat(399 - text.length()), 1);
            Due.tells(x, k, text + " ".repeat(399 - text.length()) + ";", 1);
        }
    }

    private static void whatCanStandInTheLaw() {
        Due.about("Terms 2, FAULT 1 in THE LAW");
        for (String sign : new String[] {"(", ")", "sway", "not", "talk", "7", "and", "or", "<", "=", ">"}) {
            Due.faults(bank(1), 0, "sway 1 " + sign, 1, 7);
        }
        for (String sign : new String[] {"+", "-", "*", "/", ";", ")", "(", "<", "=", ">", "when", "not"}) {
            VotedBank x = bank(1);
            Due.faults(x, 0, "sway " + sign, 1, 5);
            Due.faults(x, 0, "sway 1+" + sign, 1, 7);
            Due.faults(x, 0, "sway 1*" + sign, 1, 7);
            Due.faults(x, 0, "sway 1/" + sign, 1, 7);
            Due.faults(x, 0, "sway 1 when 1<" + sign, 1, 14);
        }
        for (String sign : new String[] {"+", "-", "*", "/", ";", ")", "<", "=", ">", "when", "and", "or"}) {
            VotedBank x = bank(1);
            Due.faults(x, 0, "sway 1 when " + sign, 1, 12);
            Due.faults(x, 0, "sway 1 when not " + sign, 1, 16);
            Due.faults(x, 0, "sway 1 when (" + sign, 1, 13);
        }
        VotedBank y = bank(1);
        Due.faults(y, 0, "sway 1/for;", 1, 7);
        Due.faults(y, 0, "sway 1 when 1;", 1, 13);
        Due.faults(y, 0, "sway 1 when (1);", 1, 14);
        Due.faults(y, 0, "sway 1 when (1=1);)", 1, 18);
        Due.faults(y, 0, "sway 1 when (1=1));", 1, 17);
        Due.faults(y, 0, "sway 1 when (1=1;", 1, 16);
        Due.faults(y, 0, "sway 1 when 1=1=1;", 1, 15);
        Due.faults(y, 0, "sway 1 when 1=1 not 1=1;", 1, 16);
        Due.faults(y, 0, "sway 1 when 1=1 when 1=1;", 1, 16);
        Due.faults(y, 0, "sway 1 when 1=(1);", 1, 14);
        Due.faults(y, 0, "sway 1 when (1)+1=1;", 1, 14);
        Due.faults(y, 0, "sway 1 sway 2;", 1, 7);
        Due.faults(y, 0, "1;", 1, 0);
        Due.faults(y, 0, "when 1=1;", 1, 0);
    }

    private static void whatCanStandInOthers() {
        Due.about("Terms 2, FAULT 1 in EARS, LOG, SEASONS");
        VotedBank x = bank(2);
        Due.faults(x, 1, "passenger hears 0;", 1, 10);
        Due.faults(x, 1, "passenger 1 0;", 1, 12);
        Due.faults(x, 1, "passenger 1 hears;", 1, 17);
        Due.faults(x, 1, "passenger 1 hears hears 0;", 1, 18);
        Due.faults(x, 1, "passenger 1 hears 0 passenger", 1, 20);
        Due.faults(x, 1, "passenger 1 hears 0 1;", 1, 20);
        Due.faults(x, 1, "hears 1;", 1, 0);
        Due.faults(x, 1, "0 hears 1;", 1, 0);
        Due.faults(x, 1, "passenger -1 hears 0;", 1, 10);
        Due.faults(x, 2, "row;", 1, 3);
        Due.faults(x, 2, "row stay 0;", 1, 4);
        Due.faults(x, 2, "row 0 row 1;", 1, 6);
        Due.faults(x, 2, "row 0 stay;", 1, 10);
        Due.faults(x, 2, "row 0 stay stay 0;", 1, 11);
        Due.faults(x, 2, "row 0 1 stay 0 stay 1;", 1, 15);
        Due.faults(x, 2, "row 0 stay 0 row 1;", 1, 13);
        Due.faults(x, 2, "stay 0;", 1, 0);
        Due.faults(x, 2, "row 0-1;", 1, 5);
        Due.faults(x, 3, "bank behind 1 is 2;", 1, 5);
        Due.faults(x, 3, "bank 1 1 is 2;", 1, 7);
        Due.faults(x, 3, "bank 1 is 2;", 1, 7);
        Due.faults(x, 3, "bank 1 behind is 2;", 1, 14);
        Due.faults(x, 3, "bank 1 behind 1 2;", 1, 16);
        Due.faults(x, 3, "bank 1 behind 1 is;", 1, 18);
        Due.faults(x, 3, "bank 1 behind 1 is 2 3;", 1, 21);
        Due.faults(x, 3, "bank 1 behind 1 is 2 bank", 1, 21);
        Due.faults(x, 3, "behind 1 is 2;", 1, 0);
    }

    // ---- fault 2

    private static void partsByNought() {
        Due.about("Terms 2, FAULT 2: a part by 0");
        VotedBank x = bank(1);
        for (String nought : new String[] {"0", "00", "000", "0000"}) {
            Due.faults(x, 0, "sway 8/" + nought + ";", 2, 7);
            Due.faults(x, 0, "sway 8/2/" + nought + ";", 2, 9);
            Due.faults(x, 0, "sway 1 when 1=8/" + nought + ";", 2, 16);
        }
        Due.tells(x, 0, "sway 8/1;", 1);
        Due.due("8/1", x.sway(0, 0), 8);
        Due.tells(x, 0, "sway 9999/9999;", 1);
        Due.due("9999/9999", x.sway(0, 0), 1);
        Due.tells(x, 0, "sway 0/8+0*0;", 1);
        Due.due("nought may be parted", x.sway(0, 0), 0);
    }

    private static void landsAndAges() {
        Due.about("Terms 2, FAULT 2: one beyond its bounds");
        VotedBank x = bank(1);
        Due.tells(x, 3, "bank 0 behind 1 is 5;bank 5 behind 99 is 0;", 2);
        Due.due("season(0, 0)", x.season(0, 0), 1);
        Due.due("season(0, 1)", x.season(0, 1), 5);
        Due.due("season(5, 0)", x.season(5, 0), 99);
        Due.due("season(5, 1)", x.season(5, 1), 0);
        Due.faults(x, 3, "bank 6 behind 1 is 0;", 2, 5);
        Due.faults(x, 3, "bank 9999 behind 1 is 0;", 2, 5);
        Due.faults(x, 3, "bank 1 behind 0 is 0;", 2, 14);
        Due.faults(x, 3, "bank 1 behind 100 is 0;", 2, 14);
        Due.faults(x, 3, "bank 1 behind 9999 is 0;", 2, 14);
        Due.faults(x, 3, "bank 1 behind 1 is 6;", 2, 19);
        Due.faults(x, 3, "bank 1 behind 1 is 9999;", 2, 19);
        Due.tells(x, 3, "bank 3 behind 1 is 3;", 1);
        Due.due("a land may become itself", x.season(3, 1), 3);
    }

    private static void passengersThatAreNot() {
        Due.about("Terms 2, FAULT 2: a PASSENGER that there is not");
        for (int n : new int[] {0, 1, 2, 11, 12}) {
            VotedBank x = bank(n);
            Due.faults(x, 1, "passenger " + n + " hears 0;", 2, 10);
            Due.faults(x, 2, "row " + n + ";", 2, 4);
            Due.faults(x, 2, "row 9999;", 2, 4);
            Due.faults(x, 2, "row 32;", 2, 4);
            if (n >= 1) {
                Due.tells(x, 2, "row " + (n - 1) + " stay " + (n - 1) + ";", 1);
                Due.faults(x, 2, "row 0 " + n + ";", 2, 6);
                Due.faults(x, 2, "row 0 stay " + n + ";", 2, 11);
                Due.faults(x, 1, "passenger 0 hears " + n + ";", 2, 18);
                Due.faults(x, 1, "passenger 0 hears 33;", 2, 18);
            }
            if (n >= 2) {
                Due.tells(x, 1, "passenger " + (n - 1) + " hears 0;passenger 0 hears " + (n - 1) + ";", 2);
                Due.due("he hears 0", x.of(n - 1, 7), 1);
                Due.due("0 hears him", x.of(0, 7), 1 << (n - 1));
            }
        }
        VotedBank x = bank(12);
        Due.tells(x, 2, "row 0 1 2 3 4 5 6 7 8 9 10 11 stay 11 10 9 8 7 6 5 4 3 2 1 0;", 1);
        Due.due("all twelve row", x.log(), 1);
        Due.due("all twelve stay", x.look(6), 4095);
    }

    private static void theSameOneAgain() {
        Due.about("Terms 2, FAULT 2: the same one again");
        VotedBank x = bank(12);
        Due.faults(x, 2, "row 0 0;", 2, 6);
        Due.faults(x, 2, "row 0 1 2 0;", 2, 10);
        Due.faults(x, 2, "row 0 1 2 3 4 5 6 7 8 9 10 11 11;", 2, 30);
        Due.faults(x, 2, "row 0 1 2 3 4 5 6 7 8 9 10 11 12;", 2, 30);
        Due.faults(x, 2, "row 3 stay 3 3;", 2, 13);
        Due.faults(x, 2, "row 3 4 stay 4 3 4;", 2, 17);
        Due.faults(x, 2, "row 0 1 2 3 4 5 6 7 8 9 10 11 stay 0 1 2 3 4 5 6 7 8 9 10 11 0;", 2, 61);
        Due.tells(x, 2, "row 3 stay 3;row 3 stay 3;", 2);
        Due.faults(x, 1, "passenger 0 hears 0;", 2, 18);
        Due.faults(x, 1, "passenger 11 hears 11;", 2, 19);
        Due.tells(x, 1, "passenger 0 hears 1;passenger 0 hears 1;passenger 1 hears 0;", 3);
        Due.due("one way", x.of(0, 7), 2);
        Due.due("and the other", x.of(1, 7), 1);
    }

    private static void toStayOneRows() {
        Due.about("Terms 2, FAULT 2: one to stay that does not row");
        VotedBank x = bank(3);
        Due.faults(x, 2, "row 0 2 stay 1;", 2, 13);
        Due.faults(x, 2, "row 0 2 stay 2 1;", 2, 15);
        Due.faults(x, 2, "row 1;row 0 2 stay 1;", 2, 19);
        Due.tells(x, 2, "row 0 2 stay 0 2;row 1;row 1 stay 1;", 3);
    }

    // ---- fault 3

    private static void eightAreOpen() {
        Due.about("Terms 2, FAULT 3: the 9th ( or not that is open");
        VotedBank x = bank(1);
        for (int nots = 0; nots <= 8; nots++) {
            String eight = "sway 1 when " + "not ".repeat(nots) + "(".repeat(8 - nots);
            String close = ")".repeat(8 - nots) + ";";
            Due.tells(x, 0, eight + "1=1" + close, 1);
            Due.due("so, or not so", x.sway(0, 0), nots % 2 == 0 ? 1 : 300);
            Due.faults(x, 0, eight + "(1=1)" + close, 3, eight.length());
            Due.faults(x, 0, eight + "not 1=1" + close, 3, eight.length());
        }
        Due.faults(x, 0, "sway 1 when ((((((((((", 3, 20);
        Due.faults(x, 0, "sway 1 when 1=1 or 2=2 and ((((((((1=1 and (", 3, 43);
        Due.faults(x, 0, "sway 1 when " + "not(".repeat(4) + "1=1 or not", 3, 35);
    }

    private static void closedOnesAreNotOpen() {
        Due.about("Terms 2, FAULT 3: what is closed is not open");
        VotedBank x = bank(1);
        String deep = "((((((((1=1))))))))";
        Due.tells(x, 0, "sway 1 when " + deep + " and " + deep + " or " + deep + ";", 1);
        String nots = "not not not not not not not not 1=1";
        Due.tells(x, 0, "sway 1 when " + nots + " and " + nots + " or " + nots + ";sway 2 when " + nots + ";", 2);
        Due.tells(x, 0, "sway 1 when (((((((not 1=1 and not 1=1 or not 2=2 or (1=1))))))));", 1);
        Due.tells(x, 0, "sway 1 when " + "(1=1) and ".repeat(9) + "not 1=1 or " + "not 1=1 or ".repeat(9) + "1=1;", 1);
    }

    // ---- which fault

    private static void firstByPlace() {
        Due.about("Terms 2, FAULTS: the first by its place");
        VotedBank x = bank(2);
        Due.faults(x, 0, "sway 1/0;sway ?", 2, 7);
        Due.faults(x, 0, "sway ?;sway 1/0;", 1, 5);
        Due.faults(x, 0, "sway 1/0 when (((((((((1=1", 2, 7);
        Due.faults(x, 0, "sway 1 when (((((((((1/0=1", 3, 20);
        Due.faults(x, 0, "sway 1 when ((((((((1/0=1", 2, 22);
        Due.faults(x, 1, "passenger 2 hears 2;", 2, 10);
        Due.faults(x, 1, "passenger 2 row", 2, 10);
        Due.faults(x, 2, "row 2 stay 2 ?", 2, 4);
        Due.faults(x, 2, "row 0 ? stay 1;", 1, 6);
        Due.faults(x, 3, "bank 6 behind 100 is 6;", 2, 5);
        Due.faults(x, 3, "bank 5 behind 100 is 6;", 2, 14);
        Due.faults(x, 3, "bank 5 behind 99 is 6;", 2, 20);
        Due.faults(x, 2, "row 0;".repeat(15) + "row 2;row 0;", 2, 94);
        Due.faults(x, 2, "row 0;".repeat(16) + "row 2;", 3, 96);
    }

    private static void leastAtOnePlace() {
        Due.about("Terms 2, FAULTS: at one place the least");
        VotedBank x = bank(2);
        Due.faults(x, 2, "row 0 stay 00009;", 1, 11);
        Due.faults(x, 2, "row 0;".repeat(16) + "rows 0;", 1, 96);
        Due.faults(x, 0, "sway 1 when ((((((((1(", 1, 21);
        Due.faults(x, 0, "sway 1 when ((((((((1=1 not", 1, 24);
        Due.faults(x, 0, "sway 1 when not not not not not not not not 1 (", 1, 46);
        Due.faults(x, 1, "passenger 0 hears 1 1;", 1, 20);
    }
}
