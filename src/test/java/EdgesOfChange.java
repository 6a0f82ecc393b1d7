/** Edges of promises 8 to 13 and 51 to 53: what is taken and brought, turned, taken back, imaged and counted. */
final class EdgesOfChange {
    private static final int MIN = Edges.MIN;
    private static final int MAX = Edges.MAX;

    private EdgesOfChange() {
    }

    private static SearchedAtTheGate twoPeople() {
        return Check.gate("p129;p002;");
    }

    // ---- 8 takes: "A THING is taken out and lies on THE TRAY: POCKETS then. -1 either; -3 he has it not." ----

    static void promise8TheFirstAndTheLastThing() {
        SearchedAtTheGate g = twoPeople();
        Check.due("takes(0, 0)", g.takes(0, 0), 128);
        Check.due("takes(0, 7)", g.takes(0, 7), 0);
        Check.due("tray(0)", g.tray(0), 129);
    }

    static void promise8FromFullToEmpty() {
        SearchedAtTheGate g = Check.gate("p255;");
        int left = 255;
        for (int thing = 0; thing < 8; thing++) {
            left -= 1 << thing;
            Check.due("takes(0, " + thing + ")", g.takes(0, thing), left);
            Check.due("tray(0)", g.tray(0), 255 - left);
        }
        Edges.refused("takes() of one with nothing", -3, () -> Check.gate("p000;"), h -> h.takes(0, 0));
    }

    static void promise8TheLastOfSix() {
        SearchedAtTheGate g = Check.gate(Edges.SIX);
        Check.due("takes(5, 7)", g.takes(5, 7), 127);
        Check.due("the others keep it", g.pockets(4), 255);
    }

    static void promise8LiesThereAlready() {
        SearchedAtTheGate g = Check.gate("p001;p001;t00;");
        Check.due("takes(1, 0)", g.takes(1, 0), 0);
        Check.due("tray(0)", g.tray(0), 1);
    }

    static void promise8Nobody() {
        for (int person : new int[] {-1, 2, 6, MIN, MAX}) {
            Edges.refused("takes(" + person + ", 0)", -1, EdgesOfChange::twoPeople, g -> g.takes(person, 0));
        }
        Edges.refused("takes(0, 0) of nobody", -1, Edges::bare, g -> g.takes(0, 0));
        Edges.refused("takes(6, 0) of six", -1, Edges::full, g -> g.takes(6, 0));
    }

    static void promise8NoSuchThing() {
        for (int thing : new int[] {-1, 8, 9, 31, 32, 39, MIN, MAX}) {
            Edges.refused("takes(0, " + thing + ")", -1, EdgesOfChange::twoPeople, g -> g.takes(0, thing));
            Edges.refused("takes(0, " + thing + ") of some", -1, Edges::some, g -> g.takes(0, thing));
        }
    }

    static void promise8HeHasItNot() {
        for (int thing = 1; thing <= 6; thing++) {
            int not = thing;
            Edges.refused("takes(0, " + not + ")", -3, EdgesOfChange::twoPeople, g -> g.takes(0, not));
        }
        Edges.refused("takes(1, 7)", -3, EdgesOfChange::twoPeople, g -> g.takes(1, 7));
        SearchedAtTheGate twice = twoPeople();
        twice.takes(0, 7);
        Check.due("takes(0, 7) again", twice.takes(0, 7), -3);
    }

    static void promise8NobodyAheadOfHasNot() {
        Edges.refused("takes(2, 2)", -1, EdgesOfChange::twoPeople, g -> g.takes(2, 2));
        Edges.refused("takes(1, 8)", -1, EdgesOfChange::twoPeople, g -> g.takes(1, 8));
    }

    // ---- 9 brings: "He has a THING (off THE TRAY, if it is there): POCKETS then. -1 either." ----

    static void promise9FromEmptyToFull() {
        SearchedAtTheGate g = Check.gate("p000;");
        int has = 0;
        for (int thing = 0; thing < 8; thing++) {
            has += 1 << thing;
            Check.due("brings(0, " + thing + ")", g.brings(0, thing), has);
        }
        Check.due("brings(0, 7) again", g.brings(0, 7), 255);
        Check.due("tray(0)", g.tray(0), 0);
    }

    static void promise9OffTheTray() {
        SearchedAtTheGate g = Check.gate("p255;p000;t00;t07;t03;");
        Check.due("brings(1, 0)", g.brings(1, 0), 1);
        Check.due("tray(0)", g.tray(0), 136);
        Check.due("brings(1, 7)", g.brings(1, 7), 129);
        Check.due("tray(0)", g.tray(0), 8);
    }

    static void promise9NotOnTheTray() {
        SearchedAtTheGate g = Check.gate("p255;p000;t03;");
        Check.due("brings(1, 4)", g.brings(1, 4), 16);
        Check.due("tray(0)", g.tray(0), 8);
        Check.due("pockets(0)", g.pockets(0), 247);
    }

    static void promise9HeHasItAlready() {
        SearchedAtTheGate g = Check.gate("p003;p001;t00;");
        Check.due("brings(1, 0)", g.brings(1, 0), 1);
        Check.due("off THE TRAY all the same", g.tray(0), 0);
        Check.due("nothing is refused", g.count(13), 0);
    }

    static void promise9TheLastOfSix() {
        SearchedAtTheGate g = Check.gate("p000;".repeat(6));
        Check.due("brings(5, 7)", g.brings(5, 7), 128);
        Check.due("the others have it not", g.pockets(4), 0);
    }

    static void promise9Nobody() {
        for (int person : new int[] {-1, 2, 6, MIN, MAX}) {
            Edges.refused("brings(" + person + ", 0)", -1, EdgesOfChange::twoPeople, g -> g.brings(person, 0));
        }
        Edges.refused("brings(0, 0) of nobody", -1, Edges::bare, g -> g.brings(0, 0));
        Edges.refused("brings(6, 0) of six", -1, Edges::full, g -> g.brings(6, 0));
    }

    static void promise9NoSuchThing() {
        for (int thing : new int[] {-1, 8, 9, 31, 32, MIN, MAX}) {
            Edges.refused("brings(0, " + thing + ")", -1, Edges::some, g -> g.brings(0, thing));
        }
        Edges.refused("brings(3, 8)", -1, Edges::some, g -> g.brings(3, 8));
    }

    // ---- 10 turn: "10 times the KIND and the FIGURE it had. -1; -2; -4; -6 9." ----

    static void promise10TheLeastAndTheGreatest() {
        SearchedAtTheGate g = Check.gate("l0077;");
        Check.due("turn(0, 5, 9)", g.turn(0, 5, 9), 0);
        Check.due("KIND", g.lawOf(0, 0), 5);
        Check.due("FIGURE", g.lawOf(0, 1), 9);
        Check.due("turn(0, 0, 0)", g.turn(0, 0, 0), 59);
        Check.due("KIND", g.lawOf(0, 0), 0);
        Check.due("FIGURE", g.lawOf(0, 1), 0);
        Check.due("WANTED stays", g.lawOf(0, 2), 7);
        Check.due("GIVEN stays", g.lawOf(0, 3), 7);
    }

    static void promise10EachKindAndFigure() {
        SearchedAtTheGate g = Check.gate("l0000;");
        int before = 0;
        for (int told = 0; told < 60; told++) {
            Check.due("turn to " + told, g.turn(0, told / 10, told % 10), before);
            before = told;
        }
    }

    static void promise10TheLastOfTen() {
        SearchedAtTheGate g = Check.gate("l1234;".repeat(10));
        Check.due("turn(9, 3, 3)", g.turn(9, 3, 3), 12);
        Check.due("the one ahead stays", g.lawOf(8, 0), 1);
    }

    static void promise10ToWhatItIs() {
        SearchedAtTheGate g = Check.gate("l1234;");
        Check.due("turn(0, 1, 2)", g.turn(0, 1, 2), 12);
        Check.due("it can be taken back", g.count(8), 1);
    }

    static void promise10NoSuchLaw() {
        for (int law : new int[] {-1, 6, 10, MIN, MAX}) {
            Edges.refused("turn(" + law + ", 0, 0)", -1, Edges::some, g -> g.turn(law, 0, 0));
        }
        Edges.refused("turn(0, 0, 0) without LAWS", -1, Edges::bare, g -> g.turn(0, 0, 0));
        Edges.refused("turn(10, 0, 0) of ten", -1, Edges::full, g -> g.turn(10, 0, 0));
    }

    static void promise10NoSuchKind() {
        for (int kind : new int[] {-1, 6, MIN, MAX}) {
            Edges.refused("turn(0, " + kind + ", 0)", -2, Edges::some, g -> g.turn(0, kind, 0));
        }
    }

    static void promise10FigureBelow() {
        for (int figure : new int[] {-1, MIN}) Edges.refused("turn(0, 0, " + figure + ")", -4, Edges::some, g -> g.turn(0, 0, figure));
    }

    static void promise10FigureAbove() {
        for (int figure : new int[] {10, MAX}) Edges.refused("turn(0, 0, " + figure + ")", -6, Edges::some, g -> g.turn(0, 0, figure));
    }

    static void promise10InTheirOrder() {
        Edges.refused("turn(6, 6, -1)", -1, Edges::some, g -> g.turn(6, 6, -1));
        Edges.refused("turn(-1, -1, 10)", -1, Edges::some, g -> g.turn(-1, -1, 10));
        Edges.refused("turn(0, 6, -1)", -2, Edges::some, g -> g.turn(0, 6, -1));
        Edges.refused("turn(0, -1, 10)", -2, Edges::some, g -> g.turn(0, -1, 10));
    }

    // ---- 11 clears: "THE TRAY is empty: what lay there (bits)." ----

    static void promise11AnEmptyTray() {
        SearchedAtTheGate g = new SearchedAtTheGate();
        Check.due("clears()", g.clears(), 0);
        Check.due("tray(0)", g.tray(0), 0);
    }

    static void promise11AFullTray() {
        SearchedAtTheGate g = Check.gate("p255;t00;t01;t02;t03;t04;t05;t06;t07;");
        Check.due("clears()", g.clears(), 255);
        Check.due("tray(0)", g.tray(0), 0);
        Check.due("count(3)", g.count(3), 0);
        Check.due("clears() again", g.clears(), 0);
    }

    // ---- 12 day: "LAWS done by all together. -6 DAY 999." ----

    static void promise12WithoutPeople() {
        SearchedAtTheGate g = Check.gate("l3000;");
        Check.due("day()", g.day(), 0);
        Check.due("count(2)", g.count(2), 1);
    }

    static void promise12WithoutLaws() {
        SearchedAtTheGate g = Check.gate(Edges.SIX);
        Check.due("day()", g.day(), 0);
        Check.due("pockets(5)", g.pockets(5), 255);
    }

    static void promise12TheMostLawsDone() {
        SearchedAtTheGate g = Check.gate(Edges.TEN + Edges.SIX);
        Check.due("day()", g.day(), 60);
    }

    static void promise12EachHasItsPocketsBehindIt() {
        SearchedAtTheGate g = Check.gate("l0007;l3111;" + "p001;".repeat(5) + "p002;");
        Check.due("day()", g.day(), 10);
        Check.due("the first", g.pockets(0), 130);
        Check.due("the fifth", g.pockets(4), 130);
        Check.due("the sixth", g.pockets(5), 2);
    }

    static void promise12TheTrayStays() {
        SearchedAtTheGate g = Check.gate("l5000;p003;p001;t01;");
        Check.due("day()", g.day(), 2);
        Check.due("both have it", g.pockets(0) + g.pockets(1), 6);
        Check.due("it lies there still", g.tray(0), 2);
    }

    /** So many DAYS take more than 512 calls, behind which the document leaves all free; the class keeps on. */
    static void promise12Day999() {
        SearchedAtTheGate g = new SearchedAtTheGate();
        for (int i = 0; i < 998; i++) g.day();
        Check.due("count(2)", g.count(2), 998);
        Check.due("day() from 998", g.day(), 0);
        Check.due("count(2)", g.count(2), 999);
        Check.due("day() from 999", g.day(), -6);
        Check.due("count(2)", g.count(2), 999);
        Check.due("count(16)", g.count(16), 1);
        Check.due("count(8)", g.count(8), 8);
    }

    static void promise12AsManyDaysAsCallsGo() {
        SearchedAtTheGate g = new SearchedAtTheGate();
        for (int i = 1; i <= 511; i++) Check.due("day() " + i, g.day(), 0);
        Check.due("count(2)", g.count(2), 511);
    }

    // ---- 13 back: "how many can still be. -3 none."; "each that is not refused counts, also if all stays as it was" ----

    static void promise13NoneToTakeBack() {
        Edges.refused("back() of a new object", -3, Edges::bare, g -> g.back());
        Edges.refused("back() behind law() and person()", -3, () -> Check.gate("l0001;p001;"), g -> g.back());
        SearchedAtTheGate g = twoPeople();
        g.takes(0, 0);
        Check.due("back()", g.back(), 0);
        Check.due("back() again", g.back(), -3);
        Check.due("pockets(0)", g.pockets(0), 129);
        Check.due("count(13)", g.count(13), 1);
    }

    static void promise13EachOfTheFour() {
        SearchedAtTheGate g = Check.gate("l0001;p003;");
        g.takes(0, 1);
        g.brings(0, 2);
        g.turn(0, 3, 9);
        g.day();
        Check.due("count(8)", g.count(8), 4);
        Check.due("POCKETS behind the DAY", g.pockets(0), 5);
        Check.due("back() the DAY", g.back(), 3);
        Check.due("count(2)", g.count(2), 0);
        Check.due("back() the turn", g.back(), 2);
        Check.due("KIND and FIGURE", g.lawOf(0, 0) + g.lawOf(0, 1), 0);
        Check.due("POCKETS stay", g.pockets(0), 5);
        Check.due("back() what he brought", g.back(), 1);
        Check.due("POCKETS", g.pockets(0), 1);
        Check.due("THE TRAY stays", g.tray(0), 2);
        Check.due("back() what was taken", g.back(), 0);
        Check.due("POCKETS at first", g.pockets(0), 3);
        Check.due("THE TRAY at first", g.tray(0), 0);
    }

    static void promise13AlsoIfAllStaysAsItWas() {
        SearchedAtTheGate g = Check.gate("l0001;p002;");
        g.brings(0, 1);
        g.turn(0, 0, 0);
        Check.due("count(8)", g.count(8), 2);
        Check.due("back()", g.back(), 1);
        Check.due("back()", g.back(), 0);
        Check.due("pockets(0)", g.pockets(0), 2);
        SearchedAtTheGate none = new SearchedAtTheGate();
        none.day();
        Check.due("a DAY of nobody counts", none.count(8), 1);
    }

    static void promise13RefusedOnesDoNotCount() {
        SearchedAtTheGate g = Check.gate("l0001;p002;");
        g.brings(0, 0);
        g.takes(0, 7);
        g.takes(1, 0);
        g.takes(0, 8);
        g.brings(0, 8);
        g.brings(1, 0);
        g.turn(1, 0, 0);
        g.turn(0, 6, 0);
        g.turn(0, 0, -1);
        g.turn(0, 0, 10);
        Check.due("count(8)", g.count(8), 1);
        Check.due("back()", g.back(), 0);
        Check.due("pockets(0)", g.pockets(0), 2);
    }

    static void promise13TheEighth() {
        SearchedAtTheGate g = Check.gate("p000;");
        for (int thing = 0; thing < 8; thing++) {
            g.brings(0, thing);
            Check.due("count(8)", g.count(8), thing + 1);
        }
        for (int left = 7; left >= 0; left--) {
            Check.due("back()", g.back(), left);
            Check.due("pockets(0)", g.pockets(0), (1 << left) - 1);
        }
        Check.due("back() of none", g.back(), -3);
    }

    static void promise13TheNinthAndMore() {
        for (int more = 9; more <= 17; more++) {
            SearchedAtTheGate g = new SearchedAtTheGate();
            for (int i = 0; i < more; i++) g.day();
            Check.due("count(8) of " + more, g.count(8), 8);
            for (int left = 7; left >= 0; left--) {
                Check.due("back() of " + more, g.back(), left);
                Check.due("count(2)", g.count(2), more - 8 + left);
            }
            Check.due("back() of none", g.back(), -3);
            Check.due("the oldest stay", g.count(2), more - 8);
        }
    }

    static void promise13AnewBehindAllAreTakenBack() {
        SearchedAtTheGate g = new SearchedAtTheGate();
        for (int i = 0; i < 11; i++) g.day();
        for (int i = 0; i < 8; i++) g.back();
        g.day();
        Check.due("count(2)", g.count(2), 4);
        Check.due("back()", g.back(), 0);
        Check.due("count(2)", g.count(2), 3);
        Check.due("back() of none", g.back(), -3);
    }

    static void promise13SomeBackAndOthersAnew() {
        SearchedAtTheGate g = Check.gate("p000;");
        for (int thing = 0; thing < 8; thing++) g.brings(0, thing);
        for (int i = 0; i < 3; i++) g.back();
        for (int i = 0; i < 4; i++) g.brings(0, 7);
        Check.due("count(8)", g.count(8), 8);
        for (int left = 7; left >= 4; left--) g.back();
        Check.due("pockets(0)", g.pockets(0), 31);
        for (int left = 3; left >= 0; left--) Check.due("back()", g.back(), left);
        Check.due("pockets(0)", g.pockets(0), 1);
    }

    private static SearchedAtTheGate oneToTakeBack() {
        SearchedAtTheGate g = Check.gate("l0001;p001;");
        g.image();
        g.brings(0, 1);
        return g;
    }

    private static void leavesNone(String call, SearchedAtTheGate g) {
        Check.due("count(8) behind " + call, g.count(8), 0);
        Check.due("back() behind " + call, g.back(), -3);
    }

    static void promise13LawLeavesNone() {
        SearchedAtTheGate g = oneToTakeBack();
        g.law(0, 0, 0);
        leavesNone("law()", g);
        Check.due("pockets(0)", g.pockets(0), 3);
    }

    static void promise13PersonLeavesNone() {
        SearchedAtTheGate g = oneToTakeBack();
        g.person(0);
        leavesNone("person()", g);
    }

    static void promise13ClearsLeavesNone() {
        SearchedAtTheGate g = oneToTakeBack();
        Check.due("clears(), though nothing lay there", g.clears(), 0);
        leavesNone("clears()", g);
    }

    static void promise13RestoreLeavesNone() {
        SearchedAtTheGate g = oneToTakeBack();
        g.restore();
        leavesNone("restore()", g);
        Check.due("pockets(0)", g.pockets(0), 1);
    }

    static void promise13AMillLeavesNone() {
        SearchedAtTheGate g = oneToTakeBack();
        Check.tell(g, "b07;");
        leavesNone("a MILL", g);
    }

    static void promise13WhereTheyAreRefusedTheyLeaveIt() {
        SearchedAtTheGate g = Check.gate("l0001;p001;");
        g.brings(0, 1);
        g.law(6, 0, 0);
        g.law(0, -1, 0);
        g.law(0, 0, 8);
        g.person(-1);
        g.person(256);
        g.restore();
        Check.tell(g, "q");
        Check.tell(g, "t07;");
        Check.due("count(8)", g.count(8), 1);
        Edges.refused("restore() of none", -3, () -> Check.gate("p001;"), h -> h.restore());
    }

    static void promise13OthersLeaveIt() {
        SearchedAtTheGate g = oneToTakeBack();
        g.image();
        g.row(99);
        g.judge(0);
        g.clear();
        g.feed('x');
        Check.due("count(8)", g.count(8), 1);
        Check.due("back()", g.back(), 0);
        Check.due("pockets(0)", g.pockets(0), 1);
    }

    // ---- 51 image: "THE IMAGE is taken: DAY."; 52 restore: "DAY. -3 there is none." ----

    static void promise51OfANewObject() {
        SearchedAtTheGate g = new SearchedAtTheGate();
        Check.due("image()", g.image(), 0);
        g.law(0, 0, 0);
        g.person(1);
        g.day();
        Check.due("restore()", g.restore(), 0);
        for (int what = 0; what <= 5; what++) Check.due("count(" + what + ")", g.count(what), 0);
    }

    static void promise51TheLaterOneStands() {
        SearchedAtTheGate g = Check.gate("p001;");
        g.image();
        g.day();
        g.takes(0, 0);
        Check.due("image()", g.image(), 1);
        g.day();
        Check.due("restore()", g.restore(), 1);
        Check.due("pockets(0)", g.pockets(0), 0);
        Check.due("tray(0)", g.tray(0), 1);
    }

    static void promise51OfAllThereIsRoomFor() {
        SearchedAtTheGate g = Check.gate("l5977;".repeat(10) + Edges.SIX);
        g.takes(5, 7);
        Check.due("image()", g.image(), 0);
        for (int person = 0; person < 6; person++) g.takes(person, 0);
        for (int law = 0; law < 10; law++) g.turn(law, 0, 0);
        g.clears();
        Check.due("restore()", g.restore(), 0);
        for (int law = 0; law < 10; law++) {
            Check.due("KIND", g.lawOf(law, 0), 5);
            Check.due("FIGURE", g.lawOf(law, 1), 9);
        }
        for (int person = 0; person < 6; person++) Check.due("POCKETS", g.pockets(person), person == 5 ? 127 : 255);
        Check.due("tray(0)", g.tray(0), 128);
    }

    static void promise51ButLettersTheRowAndRefusals() {
        SearchedAtTheGate g = Check.gate("p001;");
        g.feed('x');
        g.row(99);
        g.image();
        g.feed(';');
        g.row(99);
        g.pockets(1);
        g.restore();
        Check.due("letters", g.count(6), 2);
        Check.due("the ROW", g.count(7), 2);
        Check.due("REFUSALS", g.count(11), 1);
        Check.due("mill()", g.mill(), 1);
    }

    static void promise52ThereIsNone() {
        Edges.refused("restore() of a new object", -3, Edges::bare, g -> g.restore());
        Edges.refused("restore() of another", -3, () -> Check.gate("l0001;p001;"), g -> g.restore());
    }

    static void promise52AgainAndAgain() {
        SearchedAtTheGate g = Check.gate("p001;");
        g.day();
        g.image();
        for (int i = 0; i < 3; i++) {
            g.brings(0, i + 1);
            g.day();
            Check.due("restore()", g.restore(), 1);
            Check.due("pockets(0)", g.pockets(0), 1);
        }
    }

    static void promise52WhatIsTakenBackIsNoImage() {
        SearchedAtTheGate g = Check.gate("p001;");
        g.brings(0, 1);
        g.image();
        g.back();
        Check.due("pockets(0)", g.pockets(0), 1);
        g.restore();
        Check.due("pockets(0) again", g.pockets(0), 3);
    }

    // ---- 53 count: "11 .. 16 REFUSALS -1 .. -6. -9 for another what." ----

    static void promise53AnotherWhat() {
        for (int what : new int[] {-1, 9, 10, 17, 18, 100, MIN, MAX}) Edges.stays("count(" + what + ")", -9, Edges::some, g -> g.count(what));
    }

    static void promise53TheMostOfAll() {
        SearchedAtTheGate g = Check.gate(Edges.TEN + "p255;".repeat(6));
        int[] due = {10, 6, 0, 0, 48, 60, 0, 0, 0};
        for (int what = 0; what < due.length; what++) Check.due("count(" + what + ")", g.count(what), due[what]);
        for (int thing = 0; thing < 8; thing++) g.takes(0, thing);
        Check.due("on THE TRAY", g.count(3), 8);
        Check.due("in all POCKETS", g.count(4), 40);
        Check.due("to be taken back", g.count(8), 8);
        Check.due("done by all together", g.count(5), 50);
        for (int i = 0; i < 96; i++) g.feed('x');
        for (int i = 0; i < 16; i++) g.row(0);
        Check.due("letters", g.count(6), 96);
        Check.due("in the ROW", g.count(7), 16);
    }

    static void promise53EachRefusal() {
        SearchedAtTheGate g = Check.gate("p001;");
        for (int i = 0; i < 1; i++) g.pockets(1);
        for (int i = 0; i < 2; i++) g.tray(2);
        for (int i = 0; i < 3; i++) g.back();
        for (int i = 0; i < 4; i++) g.person(-1);
        for (int i = 0; i < 5; i++) g.person(256);
        int[] due = {1, 2, 3, 4, 0, 5};
        for (int i = 0; i < 6; i++) Check.due("count(" + (11 + i) + ")", g.count(11 + i), due[i]);
    }

    static void promise53OfLongsToo() {
        SearchedAtTheGate g = Check.gate("l0001;p001;");
        g.inIt(8, 0);
        g.inIt(0, 2);
        g.adds(0, 7, 0);
        g.chance(0, 0, 1, 0);
        g.chance(0, 0, 21, 0);
        int[] due = {1, 1, 1, 1, 0, 1};
        for (int i = 0; i < 6; i++) Check.due("count(" + (11 + i) + ")", g.count(11 + i), due[i]);
    }

    static void promise53ManyRefusals() {
        SearchedAtTheGate g = new SearchedAtTheGate();
        for (int i = 1; i <= 250; i++) {
            g.pockets(0);
            Check.due("count(11)", g.count(11), i);
        }
    }
}
