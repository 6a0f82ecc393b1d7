/** Edges of promise 3: mills told in letters, and their FAULTS. */
final class EdgesOfMills {
    private static final String[] STATEMENTS = {"l0000;", "p000;", "t00;", "b00;", "x;", "d;"};

    private EdgesOfMills() {
    }

    private static SearchedAtTheGate one() {
        return Check.gate("p001;");
    }

    /** The mill, told in a world with one who has THING 0, answers this; with a FAULT only the letters are gone. */
    private static void fault(String mill, int answer) {
        SearchedAtTheGate g = one();
        Check.due("mill of " + mill, Check.tell(g, mill), answer);
        Edges.same("mill of " + mill, g, one());
    }

    private static void comes(String mill, int statements) {
        Check.due("mill of " + mill, Check.tell(one(), mill), statements);
    }

    // ---- "At least one STATEMENT"; "96 at most" ----

    static void promise3NoLetterIsAFault() {
        fault("", -1000);
        Check.due("mill() of a new object", new SearchedAtTheGate().mill(), -1000);
    }

    static void promise3OneStatementIsEnough() {
        for (String statement : STATEMENTS) comes(statement, 1);
    }

    static void promise3ALonelySemicolonIsNone() {
        fault(";", -1000);
        fault("x;;", -1002);
    }

    static void promise3TheMostLetters() {
        comes("d;".repeat(48), 48);
        comes("t00;b00;".repeat(12), 24);
        SearchedAtTheGate g = one();
        Check.due("96 letters of LAWS and more", Check.tell(g, "b00;".repeat(9) + "l5977;".repeat(10)), 19);
        Check.due("the last of them", g.lawOf(9, 1), 9);
    }

    // ---- kind 1: "the first letter with which no MILL can go on (the end, if something lacks)" ----

    static void promise3TheEndIfSomethingLacks() {
        for (String statement : STATEMENTS) {
            for (int length = 1; length < statement.length(); length++) {
                String begun = statement.substring(0, length);
                fault(begun, -1000 - length);
                fault("x;b00;" + begun, -1006 - length);
            }
        }
    }

    static void promise3TheEndOf96Letters() {
        fault("x;".repeat(46) + "p000", -1096);
        fault("x;".repeat(47) + "t0", -1096);
        fault("x;".repeat(47) + "x", -1095);
    }

    /** At each place of each statement each letter that can't stand there. */
    static void promise3EachLetterAtEachPlace() {
        for (String statement : STATEMENTS) {
            for (int place = 0; place < statement.length(); place++) {
                for (int letter = 0; letter <= 255; letter++) {
                    boolean canStand = place == 0 ? "lptbxd".indexOf(letter) >= 0
                        : statement.charAt(place) == ';' ? letter == ';' : letter >= '0' && letter <= '9';
                    if (canStand) continue;
                    SearchedAtTheGate g = one();
                    char[] text = ("x;" + statement + "d;").toCharArray();
                    text[2 + place] = (char) letter;
                    for (char c : text) g.feed(c);
                    Check.due("letter " + letter + " at place " + place + " of " + statement, g.mill(), -1002 - place);
                }
            }
        }
    }

    static void promise3TheLeastAndTheGreatestDigit() {
        comes("b00;", 1);
        fault("b0/;", -1002);
        fault("b0:;", -1002);
        fault("t09;", -2000);
        fault("l9999;", -2000);
        fault("p999;", -2000);
    }

    static void promise3TheFirstAndTheLastPlace() {
        fault("q", -1000);
        fault("x;".repeat(47) + "xq", -1095);
        fault("x;".repeat(47) + "q;", -1094);
    }

    static void promise3OfTwoSuchTheFirst() {
        fault("x;qq", -1002);
        fault("t0q;q", -1002);
    }

    // ---- "kind 1 ..; else kind 2" ----

    static void promise3Kind1AheadOfKind2() {
        fault("p256;q", -1005);
        fault("l6000;x", -1007);
        fault("t99;b0", -1006);
        fault("p256;", -2000);
    }

    // ---- kind 2: "a number out of range" ----

    static void promise3KindsOfLaws() {
        for (int kind = 0; kind <= 5; kind++) comes("l" + kind + "000;", 1);
        for (int kind = 6; kind <= 9; kind++) fault("l" + kind + "000;", -2000);
    }

    static void promise3FiguresOfLaws() {
        for (int figure = 0; figure <= 9; figure++) comes("l0" + figure + "00;", 1);
    }

    static void promise3WantedsOfLaws() {
        for (int thing = 0; thing <= 7; thing++) comes("l00" + thing + "0;", 1);
        for (int thing = 8; thing <= 9; thing++) fault("l00" + thing + "0;", -2000);
    }

    static void promise3GivensOfLaws() {
        for (int thing = 0; thing <= 7; thing++) comes("l000" + thing + ";", 1);
        for (int thing = 8; thing <= 9; thing++) fault("l000" + thing + ";", -2000);
    }

    static void promise3PocketsOfPeople() {
        SearchedAtTheGate g = new SearchedAtTheGate();
        Check.due("the least and the greatest", Check.tell(g, "p000;p255;p009;"), 3);
        Check.due("pockets(0)", g.pockets(0), 0);
        Check.due("pockets(1)", g.pockets(1), 255);
        Check.due("pockets(2)", g.pockets(2), 9);
        fault("p256;", -2000);
        fault("p260;", -2000);
        fault("p300;", -2000);
        fault("p999;", -2000);
    }

    static void promise3ThingsBrought() {
        for (int thing = 0; thing <= 7; thing++) comes("b0" + thing + ";", 1);
        for (int thing = 8; thing <= 9; thing++) fault("b0" + thing + ";", -2000);
    }

    static void promise3ThingsTaken() {
        SearchedAtTheGate g = Check.gate("p255;");
        for (int thing = 0; thing <= 7; thing++) Check.due("t0" + thing, Check.tell(g, "t0" + thing + ";"), 1);
        Check.due("all are gone", g.pockets(0), 0);
        Check.due("all lie there", g.tray(0), 255);
        for (int thing = 8; thing <= 9; thing++) {
            SearchedAtTheGate full = Check.gate("p255;");
            Check.due("t0" + thing, Check.tell(full, "t0" + thing + ";"), -2000);
        }
    }

    // ---- kind 2: "no such one" ----

    static void promise3TheFirstAndTheLastOfPeople() {
        SearchedAtTheGate g = Check.gate(Edges.SIX);
        Check.due("t of 0 and of 5", Check.tell(g, "t00;t57;b50;b01;"), 4);
        Check.due("pockets(0)", g.pockets(0), 254);
        Check.due("pockets(5)", g.pockets(5), 127);
    }

    static void promise3NoSuchOne() {
        for (String who : new String[] {"1", "2", "9"}) {
            fault("t" + who + "0;", -2000);
            fault("b" + who + "0;", -2000);
        }
        SearchedAtTheGate g = Check.gate(Edges.SIX);
        Check.due("t60;", Check.tell(g, "t60;"), -2000);
        Check.due("b60;", Check.tell(g, "b60;"), -2000);
        SearchedAtTheGate nobody = new SearchedAtTheGate();
        Check.due("t00; without PEOPLE", Check.tell(nobody, "t00;"), -2000);
        Check.due("b00; without PEOPLE", Check.tell(nobody, "b00;"), -2000);
    }

    // ---- kind 2: "not in his POCKETS" ----

    static void promise3NotInHisPockets() {
        comes("t00;", 1);
        for (int thing = 1; thing <= 7; thing++) fault("t0" + thing + ";", -2000);
    }

    static void promise3BroughtThoughHeHasIt() {
        SearchedAtTheGate g = Check.gate("p001;p001;t00;");
        Check.due("b10;", Check.tell(g, "b10;"), 1);
        Check.due("pockets(1)", g.pockets(1), 1);
        Check.due("off THE TRAY", g.tray(0), 0);
    }

    static void promise3AnEmptyTrayIsEmptied() {
        SearchedAtTheGate g = one();
        Check.due("x;", Check.tell(g, "x;x;"), 2);
        Check.due("tray(0)", g.tray(0), 0);
    }

    // ---- kind 2: "no room" ----

    static void promise3RoomForTenLaws() {
        fault("l0000;".repeat(11), -2060);
        SearchedAtTheGate g = Check.gate("l0000;".repeat(9));
        Check.due("two where one has room", Check.tell(g, "x;l0000;l0000;"), -2008);
        Check.due("none came", g.count(0), 9);
        Check.due("the tenth", Check.tell(g, "l0000;"), 1);
        Check.due("the eleventh", Check.tell(g, "l0000;"), -2000);
        Check.due("count(0)", g.count(0), 10);
    }

    static void promise3RoomForSixPeople() {
        fault("p000;".repeat(6), -2025);
        SearchedAtTheGate g = Check.gate("p000;".repeat(5));
        Check.due("two where one has room", Check.tell(g, "d;p000;p000;"), -2007);
        Check.due("none came", g.count(1), 5);
        Check.due("the sixth", Check.tell(g, "p255;"), 1);
        Check.due("the seventh", Check.tell(g, "p255;"), -2000);
        Check.due("count(1)", g.count(1), 6);
    }

    // ---- kind 2: "DAY above 999" (farther than 512 calls go, where the document leaves all free) ----

    static void promise3Day999() {
        SearchedAtTheGate g = new SearchedAtTheGate();
        for (int i = 0; i < 998; i++) g.day();
        Check.due("d;d; from DAY 998", Check.tell(g, "d;d;"), -2002);
        Check.due("count(2)", g.count(2), 998);
        Check.due("d; from DAY 998", Check.tell(g, "d;"), 1);
        Check.due("count(2)", g.count(2), 999);
        Check.due("x;d; from DAY 999", Check.tell(g, "x;d;"), -2002);
        Check.due("count(2)", g.count(2), 999);
    }

    // ---- kind 2: "of the first STATEMENT that, behind all ahead of it in the text, is not as it must be" ----

    static void promise3OfTwoSuchStatementsTheFirst() {
        fault("x;p256;l6000;", -2002);
        fault("l0080;t11;", -2000);
    }

    static void promise3BehindAllAheadOfIt() {
        comes("p002;t11;", 2);
        fault("t11;p002;", -2000);
        comes("b07;t07;", 2);
        fault("t07;b07;", -2000);
        fault("t00;t00;", -2004);
        comes("t00;b00;t00;", 3);
    }

    static void promise3BehindADayAheadOfIt() {
        SearchedAtTheGate g = Check.gate("l0001;p001;");
        Check.due("what the DAY took", Check.tell(g, "d;t00;"), -2002);
        Check.due("nothing came of it", g.pockets(0), 1);
        Check.due("what the DAY gave", Check.tell(g, "d;t01;"), 2);
        Check.due("DAY", g.count(2), 1);
    }

    static void promise3TheFirstAndTheLastStatement() {
        fault("t01;" + "x;".repeat(46), -2000);
        fault("x;".repeat(46) + "t01;", -2092);
    }

    // ---- "Without FAULT all of it comes, with one nothing."; "no more then (with a FAULT neither)" ----

    static void promise3AllOfItComes() {
        SearchedAtTheGate g = Check.gate("p003;");
        Check.due("all", Check.tell(g, "l1012;p128;t00;b14;d;"), 5);
        Check.due("count(0)", g.count(0), 1);
        Check.due("pockets(0)", g.pockets(0), 6);
        Check.due("pockets(1)", g.pockets(1), 144);
        Check.due("tray(0)", g.tray(0), 1);
        Check.due("count(2)", g.count(2), 1);
    }

    static void promise3WithAFaultNothingComes() {
        String all = "l1012;p128;t00;b14;x;d;";
        fault(all + "q", -1023);
        fault(all + "t", -1024);
        fault(all + "t07;", -2023);
    }

    static void promise3TheLettersAreNoMore() {
        SearchedAtTheGate g = one();
        for (String mill : new String[] {"x;", "x", "q", "t07;"}) {
            Check.tell(g, mill);
            Check.due("letters behind " + mill, g.count(6), 0);
            Check.due("mill() again", g.mill(), -1000);
        }
    }

    static void promise3NothingIsCounted() {
        SearchedAtTheGate g = one();
        for (String mill : new String[] {"", "x", "q", "t07;", "l6000;", "p256;", "b90;", "p000;".repeat(6), "x;"}) Check.tell(g, mill);
        for (int what = 11; what <= 16; what++) Check.due("count(" + what + ")", g.count(what), 0);
    }

    static void promise3LeavesNoneToTakeBack() {
        SearchedAtTheGate g = one();
        g.brings(0, 1);
        Check.due("mill of x;", Check.tell(g, "x;"), 1);
        Check.due("count(8)", g.count(8), 0);
        Check.due("back()", g.back(), -3);
        Check.due("pockets(0)", g.pockets(0), 3);
    }

    static void promise3AFaultLeavesWhatCanBeTakenBack() {
        for (String mill : new String[] {"", "x", "xq", "t07;", "p256;"}) {
            SearchedAtTheGate g = one();
            g.brings(0, 1);
            Check.tell(g, mill);
            Check.due("count(8) behind " + mill, g.count(8), 1);
            Check.due("back() behind " + mill, g.back(), 0);
            Check.due("pockets(0) behind " + mill, g.pockets(0), 1);
        }
    }

    static void promise3TheImageStays() {
        SearchedAtTheGate g = one();
        g.image();
        Check.due("mill", Check.tell(g, "t00;d;"), 2);
        Check.due("restore()", g.restore(), 0);
        Check.due("pockets(0)", g.pockets(0), 1);
        Check.due("tray(0)", g.tray(0), 0);
    }
}
