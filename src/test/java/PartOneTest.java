/** Promises 1 to 13, 47, 49 and 51 to 53: what is told, changed, taken back, kept and counted. */
public final class PartOneTest {
    private static final int MIN = Integer.MIN_VALUE;
    private static final int MAX = Integer.MAX_VALUE;

    public static void main(String[] args) {
        aNewObject();
        letters();
        millsThatCome();
        faultsOfForm();
        faultsOfSense();
        lawsAndPeople();
        takenAndBrought();
        turned();
        traysAndDays();
        takenBack();
        whatLeavesNone();
        theRow();
        theImage();
        counts();
        Check.end();
    }

    private static void aNewObject() {
        SearchedAtTheGate g = new SearchedAtTheGate();
        for (int what = 0; what <= 8; what++) Check.due("new: count(" + what + ")", g.count(what), 0);
        for (int what = 11; what <= 16; what++) Check.due("new: count(" + what + ")", g.count(what), 0);
        Check.due("new: tray(0)", g.tray(0), 0);
        Check.due("new: pockets(0)", g.pockets(0), -1);
        Check.due("new: lawOf(0, 0)", g.lawOf(0, 0), -1);
        Check.due("new: never(0)", g.never(0), 0);
        Check.due("new: clear()", g.clear(), 0);
    }

    private static void letters() {
        SearchedAtTheGate g = new SearchedAtTheGate();
        Check.due("feed(-1)", g.feed(-1), -4);
        Check.due("feed(MIN)", g.feed(MIN), -4);
        Check.due("feed(256)", g.feed(256), -6);
        Check.due("feed(MAX)", g.feed(MAX), -6);
        Check.due("feed(0)", g.feed(0), 1);
        Check.due("feed(255)", g.feed(255), 2);
        for (int i = 3; i <= 96; i++) Check.due("feed " + i, g.feed('d'), i);
        Check.due("feed the 97th", g.feed('d'), -6);
        Check.due("feed(-1) where there is no room", g.feed(-1), -4);
        Check.due("letters", g.count(6), 96);
        Check.due("the mill of them", g.mill(), -1000);
        Check.due("letters behind it", g.count(6), 0);
        Check.due("feed anew", g.feed('d'), 1);
    }

    private static void millsThatCome() {
        SearchedAtTheGate g = new SearchedAtTheGate();
        Check.due("all statements", Check.tell(g, "l4976;p255;p009;t10;b11;x;t03;d;"), 8);
        Check.due("KIND", g.lawOf(0, 0), 4);
        Check.due("FIGURE", g.lawOf(0, 1), 9);
        Check.due("WANTED", g.lawOf(0, 2), 7);
        Check.due("GIVEN", g.lawOf(0, 3), 6);
        // 255 without 3; the LAW leaves it so, as 9 is no THING.
        Check.due("POCKETS of 0", g.pockets(0), 247);
        Check.due("POCKETS of 1", g.pockets(1), 10);
        Check.due("THE TRAY", g.tray(0), 8);
        Check.due("DAY", g.count(2), 1);
        Check.due("letters", g.count(6), 0);
        Check.due("b off THE TRAY", Check.tell(g, "b13;"), 1);
        Check.due("THE TRAY then", g.tray(0), 0);
        Check.due("POCKETS of 1 then", g.pockets(1), 10 | 8);
        Check.due("96 letters", Check.tell(g, "d;".repeat(48)), 48);
        Check.due("DAY then", g.count(2), 49);
        Check.due("d passes a DAY of all", Check.gate("l0001;p001;p001;d;").pockets(1), 2);
    }

    private static void faultsOfForm() {
        SearchedAtTheGate g = Check.gate("p001;");
        String[] texts = {"", "x", "l", "l0000", "l000;", "l00000", "p001;t0;", "x;;", "x;d;q", "x; d;", "b0:;", "b0/;",
            "l6000;q", "d1;", "X;", "p0001;", "x;x"};
        int[] places = {0, 1, 1, 5, 4, 5, 7, 2, 4, 2, 2, 2, 6, 1, 0, 4, 3};
        for (int i = 0; i < texts.length; i++) {
            Check.due("mill of " + texts[i], Check.tell(g, texts[i]), -1000 - places[i]);
            Check.due("letters behind it", g.count(6), 0);
        }
        Check.due("x did not come", Check.tell(g, "t00;l"), -1005);
        Check.due("nothing came", g.tray(0), 0);
        Check.due("PEOPLE", g.count(1), 1);
        g.feed(0);
        Check.due("a letter 0", g.mill(), -1000);
        g.feed('x');
        g.feed(';' + 128);
        Check.due("a letter above 127", g.mill(), -1001);
        for (int what = 11; what <= 16; what++) Check.due("no FAULT is counted", g.count(what), 0);
    }

    private static void faultsOfSense() {
        SearchedAtTheGate g = Check.gate("p001;");
        String[] texts = {"l6000;", "l9000;", "l0080;", "l0090;", "l0008;", "l0009;", "p256;", "p999;", "t10;", "t01;",
            "t08;", "t09;", "b10;", "b08;", "b09;", "t00;t00;", "t00;b00;t00;x;t00;", "d;x;p002;t11;t11;", "p000;t10;",
            "d;t00;d;t00;"};
        int[] places = {0, 0, 0, 0, 0, 0, 0, 0, 0, 0, 0, 0, 0, 0, 0, 4, 14, 13, 5, 8};
        for (int i = 0; i < texts.length; i++) {
            Check.due("mill of " + texts[i], Check.tell(g, texts[i]), -2000 - places[i]);
            Check.due("PEOPLE behind " + texts[i], g.count(1), 1);
            Check.due("POCKETS behind " + texts[i], g.pockets(0), 1);
            Check.due("THE TRAY behind " + texts[i], g.tray(0), 0);
            Check.due("DAY behind " + texts[i], g.count(2), 0);
        }
        Check.due("people without room", Check.tell(g, "p001;".repeat(6)), -2025);
        Check.due("people with room", Check.tell(g, "p001;".repeat(5)), 5);
        Check.due("no room now", Check.tell(g, "x;p001;"), -2002);
        Check.due("laws without room", Check.tell(g, "l5977;".repeat(11)), -2060);
        Check.due("laws with room", Check.tell(g, "l5977;".repeat(10)), 10);
        Check.due("no room for a law now", Check.tell(g, "l0000;"), -2000);
        for (int what = 11; what <= 16; what++) Check.due("no FAULT is counted", g.count(what), 0);
    }

    private static void lawsAndPeople() {
        SearchedAtTheGate g = new SearchedAtTheGate();
        Check.due("law(-1, -1, -1)", g.law(-1, -1, -1), -2);
        Check.due("law(6, 0, 0)", g.law(6, 0, 0), -2);
        Check.due("law(0, -1, 80)", g.law(0, -1, 80), -4);
        Check.due("law(0, 10, -1)", g.law(0, 10, -1), -4);
        Check.due("law(0, 10, 0)", g.law(0, 10, 0), -6);
        Check.due("law(0, 0, 80)", g.law(0, 0, 80), -6);
        Check.due("law(0, 0, 8)", g.law(0, 0, 8), -6);
        Check.due("law(0, 0, 79)", g.law(0, 0, 79), -6);
        Check.due("law(0, 0, 100)", g.law(0, 0, 100), -6);
        Check.due("law(MAX, MAX, MAX)", g.law(MAX, MAX, MAX), -2);
        Check.due("law(0, 0, MIN)", g.law(0, 0, MIN), -4);
        Check.due("law(5, 9, 77)", g.law(5, 9, 77), 0);
        Check.due("law(3, 2, 5)", g.law(3, 2, 5), 1);
        int[] parts = {5, 9, 7, 7, 3, 2, 0, 5};
        for (int i = 0; i < 8; i++) Check.due("lawOf(" + i / 4 + ", " + i % 4 + ")", g.lawOf(i / 4, i % 4), parts[i]);
        Check.due("lawOf(2, 9)", g.lawOf(2, 9), -1);
        Check.due("lawOf(-1, 0)", g.lawOf(-1, 0), -1);
        Check.due("lawOf(0, 4)", g.lawOf(0, 4), -2);
        Check.due("lawOf(0, -1)", g.lawOf(0, -1), -2);
        for (int law = 2; law < 10; law++) Check.due("law more", g.law(0, 0, 0), law);
        Check.due("an 11th", g.law(0, 0, 0), -6);
        Check.due("an 11th of no KIND", g.law(6, 0, 0), -2);
        Check.due("an 11th below", g.law(0, -1, 0), -4);

        Check.due("person(-1)", g.person(-1), -4);
        Check.due("person(256)", g.person(256), -6);
        for (int person = 0; person < 6; person++) Check.due("person more", g.person(person == 0 ? 255 : person), person);
        Check.due("a 7th", g.person(0), -6);
        Check.due("a 7th below", g.person(MIN), -4);
        Check.due("pockets(0)", g.pockets(0), 255);
        Check.due("pockets(5)", g.pockets(5), 5);
        Check.due("pockets(6)", g.pockets(6), -1);
        Check.due("pockets(-1)", g.pockets(-1), -1);
    }

    private static void takenAndBrought() {
        SearchedAtTheGate g = Check.gate("p129;p002;");
        Check.due("takes(2, 0)", g.takes(2, 0), -1);
        Check.due("takes(-1, 0)", g.takes(-1, 0), -1);
        Check.due("takes(0, 8)", g.takes(0, 8), -1);
        Check.due("takes(0, -1)", g.takes(0, -1), -1);
        Check.due("takes(0, 1)", g.takes(0, 1), -3);
        Check.due("nothing to take back", g.count(8), 0);
        Check.due("takes(0, 7)", g.takes(0, 7), 1);
        Check.due("pockets(0)", g.pockets(0), 1);
        Check.due("tray(0)", g.tray(0), 128);
        Check.due("takes(0, 7) again", g.takes(0, 7), -3);
        Check.due("brings(1, 7)", g.brings(1, 7), 130);
        Check.due("tray(0) then", g.tray(0), 0);
        Check.due("brings(1, 3)", g.brings(1, 3), 138);
        Check.due("brings(1, 3) again", g.brings(1, 3), 138);
        Check.due("brings(2, 3)", g.brings(2, 3), -1);
        Check.due("brings(1, 8)", g.brings(1, 8), -1);
        Check.due("brings(1, -1)", g.brings(1, -1), -1);
        Check.due("brings(MIN, MAX)", g.brings(MIN, MAX), -1);
        Check.due("to be taken back", g.count(8), 4);
        SearchedAtTheGate two = Check.gate("p003;p003;t00;t11;");
        two.brings(0, 1);
        Check.due("what he has already is off THE TRAY too", two.tray(0), 1);
    }

    private static void turned() {
        SearchedAtTheGate g = Check.gate("l2701;p001;");
        Check.due("turn(1, 9, -1)", g.turn(1, 9, -1), -1);
        Check.due("turn(-1, 0, 0)", g.turn(-1, 0, 0), -1);
        Check.due("turn(0, 6, -1)", g.turn(0, 6, -1), -2);
        Check.due("turn(0, -1, 0)", g.turn(0, -1, 0), -2);
        Check.due("turn(0, 0, -1)", g.turn(0, 0, -1), -4);
        Check.due("turn(0, 0, 10)", g.turn(0, 0, 10), -6);
        Check.due("turn(0, 5, 9)", g.turn(0, 5, 9), 27);
        Check.due("turn(0, 0, 3)", g.turn(0, 0, 3), 59);
        Check.due("KIND", g.lawOf(0, 0), 0);
        Check.due("FIGURE", g.lawOf(0, 1), 3);
        Check.due("WANTED", g.lawOf(0, 2), 0);
        Check.due("GIVEN", g.lawOf(0, 3), 1);
        Check.due("the HOUR then", g.when(0, 0), 3);
        Check.due("to be taken back", g.count(8), 2);
    }

    private static void traysAndDays() {
        SearchedAtTheGate g = Check.gate("l1001;l0012;p001;p255;t17;t16;");
        Check.due("clears()", g.clears(), 192);
        Check.due("tray(0)", g.tray(0), 0);
        Check.due("clears() again", g.clears(), 0);
        // Both do both LAWS: 0 gives 1, 1 takes it for 2.
        Check.due("day()", g.day(), 4);
        Check.due("pockets(0)", g.pockets(0), 5);
        Check.due("pockets(1)", g.pockets(1), 61);
        Check.due("DAY", g.count(2), 1);
        Check.due("day() again", g.day(), 4);
        SearchedAtTheGate late = new SearchedAtTheGate();
        for (int i = 0; i < 999; i++) late.day();
        Check.due("DAY at last", late.count(2), 999);
        Check.due("day() at last", late.day(), -6);
        Check.due("a mill's DAY at last", Check.tell(late, "x;d;"), -2002);
        Check.due("DAY still", late.count(2), 999);
        Check.due("back from there", late.back(), 7);
        Check.due("a mill's DAYS", Check.tell(late, "d;d;"), -2002);
        Check.due("a mill's DAY", Check.tell(late, "d;"), 1);
    }

    private static void takenBack() {
        SearchedAtTheGate g = Check.gate("l2701;p003;");
        Check.due("back() with none", g.back(), -3);
        g.takes(0, 0);
        g.brings(0, 5);
        g.turn(0, 1, 0);
        g.day();
        Check.due("behind the DAY", g.pockets(0), 34);
        Check.due("to be taken back", g.count(8), 4);
        Check.due("back() the DAY", g.back(), 3);
        Check.due("DAY", g.count(2), 0);
        Check.due("back() the turn", g.back(), 2);
        Check.due("KIND", g.lawOf(0, 0), 2);
        Check.due("FIGURE", g.lawOf(0, 1), 7);
        Check.due("POCKETS", g.pockets(0), 34);
        Check.due("back() what he brought", g.back(), 1);
        Check.due("POCKETS", g.pockets(0), 2);
        Check.due("THE TRAY", g.tray(0), 1);
        Check.due("back() what was taken", g.back(), 0);
        Check.due("POCKETS", g.pockets(0), 3);
        Check.due("THE TRAY", g.tray(0), 0);
        Check.due("back() with none more", g.back(), -3);

        SearchedAtTheGate many = Check.gate("p000;");
        for (int i = 0; i < 7; i++) many.brings(0, i);
        many.brings(0, 0);
        many.brings(0, 7);
        Check.due("8 at most", many.count(8), 8);
        Check.due("back() 7", many.back(), 7);
        Check.due("without 7", many.pockets(0), 127);
        Check.due("back() what changed nothing", many.back(), 6);
        Check.due("as it was", many.pockets(0), 127);
        for (int i = 5; i >= 0; i--) Check.due("back()", many.back(), i);
        Check.due("the oldest stays", many.pockets(0), 1);
        Check.due("back() is refused", many.back(), -3);
        many.brings(0, 4);
        Check.due("back() anew", many.back(), 0);
        Check.due("and as it was", many.pockets(0), 1);
        SearchedAtTheGate bring = Check.gate("p001;t00;");
        bring.brings(0, 0);
        bring.back();
        Check.due("it lies on THE TRAY again", bring.tray(0), 1);
    }

    private static SearchedAtTheGate withOneToTakeBack() {
        SearchedAtTheGate g = Check.gate("p001;");
        g.image();
        g.brings(0, 1);
        Check.due("one to be taken back", g.count(8), 1);
        return g;
    }

    private static void whatLeavesNone() {
        SearchedAtTheGate g = withOneToTakeBack();
        g.law(6, 0, 0);
        g.person(256);
        g.image();
        g.feed('x');
        g.mill();
        Check.due("refused ones and FAULTS leave it", g.count(8), 1);
        g.law(0, 0, 0);
        Check.due("law() leaves none", g.count(8), 0);
        g = withOneToTakeBack();
        g.person(0);
        Check.due("person() leaves none", g.back(), -3);
        g = withOneToTakeBack();
        g.clears();
        Check.due("clears() leaves none", g.back(), -3);
        g = withOneToTakeBack();
        Check.tell(g, "x;");
        Check.due("a mill leaves none", g.back(), -3);
        g = withOneToTakeBack();
        g.restore();
        Check.due("restore() leaves none", g.back(), -3);
        g = Check.gate("p001;");
        g.brings(0, 1);
        Check.due("restore() refused", g.restore(), -3);
        Check.due("leaves it", g.back(), 0);
    }

    private static void theRow() {
        SearchedAtTheGate g = new SearchedAtTheGate();
        Check.due("row(-1)", g.row(-1), -4);
        Check.due("row(100)", g.row(100), -6);
        Check.due("row(MAX)", g.row(MAX), -6);
        for (int i = 1; i <= 16; i++) Check.due("row, the " + i + "th", g.row(i == 1 ? 99 : 0), i);
        Check.due("row, a 17th", g.row(0), -6);
        Check.due("row(-1) where there is no room", g.row(-1), -4);
        Check.due("in the ROW", g.count(7), 16);
        Check.due("clear()", g.clear(), 16);
        Check.due("clear() again", g.clear(), 0);
        Check.due("in the ROW then", g.count(7), 0);
        Check.due("row(5) anew", g.row(5), 1);
    }

    private static void theImage() {
        SearchedAtTheGate g = Check.gate("l1012;p003;t00;d;");
        Check.due("restore() of none", g.restore(), -3);
        g.feed('x');
        g.row(3);
        Check.due("image()", g.image(), 1);
        g.law(0, 0, 0);
        g.turn(0, 3, 4);
        g.person(9);
        g.brings(0, 0);
        g.day();
        g.feed(';');
        g.row(4);
        g.pockets(7);
        Check.due("restore()", g.restore(), 1);
        Check.due("LAWS", g.count(0), 1);
        Check.due("KIND", g.lawOf(0, 0), 1);
        Check.due("FIGURE", g.lawOf(0, 1), 0);
        Check.due("PEOPLE", g.count(1), 1);
        Check.due("POCKETS", g.pockets(0), 6);
        Check.due("THE TRAY", g.tray(0), 1);
        Check.due("DAY", g.count(2), 1);
        Check.due("letters", g.count(6), 2);
        Check.due("in the ROW", g.count(7), 2);
        Check.due("REFUSALS -1", g.count(11), 1);
        Check.due("REFUSALS -3", g.count(13), 1);
        g.takes(0, 1);
        Check.due("restore() once more", g.restore(), 1);
        Check.due("POCKETS once more", g.pockets(0), 6);
        g.day();
        Check.due("image() of another DAY", g.image(), 2);
        g.day();
        Check.due("restore() of it", g.restore(), 2);
    }

    private static void counts() {
        SearchedAtTheGate g = Check.gate("l1001;l1012;p001;p006;p000;t11;d;");
        Check.due("LAWS", g.count(0), 2);
        Check.due("PEOPLE", g.count(1), 3);
        Check.due("DAY", g.count(2), 1);
        Check.due("THINGS on THE TRAY", g.count(3), 1);
        // 7, 4 and nothing.
        Check.due("THINGS in all POCKETS", g.count(4), 4);
        Check.due("LAWS done by all together", g.count(5), 2);
        Check.due("count(-1)", g.count(-1), -9);
        Check.due("count(9)", g.count(9), -9);
        Check.due("count(10)", g.count(10), -9);
        Check.due("count(17)", g.count(17), -9);
        Check.due("count(MIN)", g.count(MIN), -9);
        Check.due("count(MAX)", g.count(MAX), -9);
        g.pockets(-1);
        g.pockets(-1);
        g.inIt(8, 0);
        g.tray(2);
        g.takes(0, 7);
        g.adds(0, 7, 0);
        g.row(-1);
        g.chance(0, 0, 1, 0);
        g.row(100);
        g.chance(0, 0, 21, 0);
        g.chance(0, 0, 2, 2);
        int[] refusals = {3, 2, 2, 2, 0, 2};
        for (int i = 0; i < 6; i++) Check.due("count(" + (11 + i) + ")", g.count(11 + i), refusals[i]);
    }
}
