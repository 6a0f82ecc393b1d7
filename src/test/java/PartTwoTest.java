/** Promises 14 to 31, 48 and 50: a day of one in mind, sets, what he had, the tray, chance and lots. */
public final class PartTwoTest {
    /** Without 1 he has 4, without 3 too, and with 4 he does not do LAW 1. */
    private static final String TWO_LOCKS = "l3014;l3245;l3034;";
    private static final String TWO_CHAINS = "l1012;l1034;";

    /** Each of the LAWS wants a THING of its own. */
    private static final String EIGHT = "l1000;l1011;l1022;l1033;l1044;l1055;l1066;l1077;";

    public static void main(String[] args) {
        kinds();
        hours();
        dayOfOne();
        instead();
        stopped();
        allStopped();
        agrees();
        bring();
        empty();
        had();
        inIt();
        feel();
        which();
        theTray();
        guard();
        rounds();
        chance();
        judge();
        lots();
        Check.end();
    }

    /** The one LAW of a world is done in this hour by the first of PEOPLE, and leaves him these POCKETS. */
    private static void kind(String mill, int hour, int left) {
        SearchedAtTheGate g = Check.gate(mill);
        Check.due(mill + " when(0, 0)", g.when(0, 0), hour);
        Check.due(mill + " done(0, 0)", g.done(0, 0), hour < 0 ? 0 : 1);
        int before = g.pockets(0);
        for (int h = 0; h < 12; h++) {
            Check.due(mill + " at(0, " + h + ", 0)", g.at(0, h, 0), h == hour ? 0 : -9);
            Check.due(mill + " at(0, " + h + ", 1)", g.at(0, h, 1), hour >= 0 && h >= hour ? left : before);
        }
        Check.due(mill + " leaves the world as it is", g.pockets(0), before);
    }

    private static void kinds() {
        kind("l0201;p003;", 2, 2);
        kind("l0001;p005;", 0, 6);
        kind("l0000;p001;", 0, 1);
        kind("l0901;p001;", 9, 2);
        kind("l0001;p002;", -9, 0);
        kind("l1001;p001;", 0, 3);
        kind("l1301;p001;", 3, 3);
        kind("l1001;p254;", -9, 0);
        kind("l2001;p007;", 0, 5);
        kind("l2101;p005;", 1, 6);
        kind("l2001;p006;", 0, 5);
        kind("l2000;p003;", 0, 2);
        kind("l2000;p002;", -9, 0);
        kind("l2001;p252;", -9, 0);
        kind("l3102;p008;", 1, 12);
        kind("l3000;p000;", 0, 1);
        kind("l3001;p001;", -9, 0);
        kind("l4102;p001;", 2, 5);
        kind("l4102;p003;", 2, 5);
        kind("l4202;p001;", 2, 1);
        kind("l4001;p001;", 0, 2);
        kind("l4301;p009;", 4, 3);
        kind("l4801;p001;", 8, 3);
        kind("l4901;p001;", 10, 3);
        kind("l4901;p002;", -9, 0);
        kind("l5001;p001;", -9, 0);
        kind("l5301;p013;t02;t03;", 3, 13);
        kind("l5001;p006;t02;", 0, 6);
        kind("l5001;p012;t02;", -9, 0);
        kind("l5001;p003;t00;", 0, 3);
    }

    private static void hours() {
        SearchedAtTheGate g = Check.gate("l1201;l1012;l3023;l3564;p001;");
        // LAW 2 is done at once, LAW 0 in HOUR 2, LAW 1 by what it gave, LAW 3 waits for its FIGURE.
        int[] laws = {2, -9, 0, 1, -9, 3, -9, -9, -9, -9, -9, -9};
        int[] left = {9, 9, 11, 15, 15, 31, 31, 31, 31, 31, 31, 31};
        for (int hour = 0; hour < 12; hour++) {
            Check.due("at(0, " + hour + ", 0)", g.at(0, hour, 0), laws[hour]);
            Check.due("at(0, " + hour + ", 1)", g.at(0, hour, 1), left[hour]);
        }
        Check.due("at(-1, 0, 2)", g.at(-1, 0, 2), -1);
        Check.due("at(1, 0, 0)", g.at(1, 0, 0), -1);
        Check.due("at(0, 12, 2)", g.at(0, 12, 2), -1);
        Check.due("at(0, -1, 0)", g.at(0, -1, 0), -1);
        Check.due("at(0, 0, 2)", g.at(0, 0, 2), -2);
        Check.due("at(0, 0, -1)", g.at(0, 0, -1), -2);
        g = Check.gate("l3034;l3034;l3014;p000;");
        Check.due("one in an HOUR, the first first", g.at(0, 0, 0), 0);
        Check.due("each once", g.at(0, 1, 0), 1);
        Check.due("then the next", g.at(0, 2, 0), 2);
    }

    private static void dayOfOne() {
        SearchedAtTheGate g = Check.gate("l0001;l1102;p009;p000;");
        int[] done = {1, 1, 1, 2};
        for (int what = 0; what < 4; what++) Check.due("done(0, " + what + ")", g.done(0, what), done[what]);
        for (int what = 0; what < 4; what++) Check.due("done(1, " + what + ")", g.done(1, what), 0);
        Check.due("done(2, 4)", g.done(2, 4), -1);
        Check.due("done(-1, 0)", g.done(-1, 0), -1);
        Check.due("done(0, 4)", g.done(0, 4), -2);
        Check.due("done(0, -1)", g.done(0, -1), -2);
        g = Check.gate("l0001;l0010;p001;");
        Check.due("LAWS there and back", g.done(0, 1), 2);
        Check.due("what came back is not LOST", g.done(0, 2), 0);
        Check.due("what went again is not GAINED", g.done(0, 3), 0);
        g = Check.gate("l0001;l1312;p001;p000;");
        Check.due("when(0, 0)", g.when(0, 0), 0);
        Check.due("when(0, 1)", g.when(0, 1), 3);
        Check.due("when(1, 1)", g.when(1, 1), -9);
        Check.due("when(2, 0)", g.when(2, 0), -1);
        Check.due("when(-1, 0)", g.when(-1, 0), -1);
        Check.due("when(0, 2)", g.when(0, 2), -1);
        Check.due("when(0, -1)", g.when(0, -1), -1);
    }

    private static void instead() {
        SearchedAtTheGate g = Check.gate("l1004;l3015;l3026;p003;");
        // As he is LAWS 0 and 2.
        Check.due("instead(0, 0, 0)", g.instead(0, 0, 0), 5);
        Check.due("instead(0, 0, 1)", g.instead(0, 0, 1), 0);
        Check.due("instead(0, 2, 0)", g.instead(0, 2, 0), 7);
        Check.due("instead(0, 2, 1)", g.instead(0, 2, 1), 2);
        Check.due("instead(0, 1, 0)", g.instead(0, 1, 0), 4);
        Check.due("instead(0, 1, 1)", g.instead(0, 1, 1), 0);
        Check.due("instead(0, 255, 0)", g.instead(0, 255, 0), 6);
        Check.due("instead(0, 252, 0)", g.instead(0, 252, 0), 5);
        Check.due("instead(1, -1, 9)", g.instead(1, -1, 9), -1);
        Check.due("instead(0, -1, 9)", g.instead(0, -1, 9), -4);
        Check.due("instead(0, 256, 9)", g.instead(0, 256, 9), -6);
        Check.due("instead(0, 255, 2)", g.instead(0, 255, 2), -2);
        Check.due("instead(0, 0, -1)", g.instead(0, 0, -1), -2);
        Check.due("THE TRAY stays as it is", Check.gate("l5011;p003;").instead(0, 1, 0), 0);
    }

    private static void stopped() {
        SearchedAtTheGate g = Check.gate(TWO_LOCKS + "p010;p255;p000;");
        Check.due("the least of two", g.stopped(0, 1), 2);
        Check.due("done all the same", g.stopped(0, 0), 0);
        Check.due("not done, nothing to take", g.stopped(2, 1), 0);
        Check.due("done without POCKETS", g.stopped(2, 0), -9);
        Check.due("stopped(3, 0)", g.stopped(3, 0), -1);
        Check.due("stopped(-1, 0)", g.stopped(-1, 0), -1);
        Check.due("stopped(0, 3)", g.stopped(0, 3), -1);
        Check.due("stopped(0, -1)", g.stopped(0, -1), -1);
        g = Check.gate("l2001;p007;l3004;");
        Check.due("either has to go", g.stopped(0, 0), 3);
        Check.due("stopped as it is", g.stopped(0, 1), 0);
        g = Check.gate("l1014;l1024;l1145;p006;");
        Check.due("two ways to 4", g.stopped(0, 2), 6);
        // Without 2 he has 4, and by it 3 is gone; without 0 and 1 there never was a 3.
        g = Check.gate("l1003;l1013;l3124;l4345;l1537;p007;");
        Check.due("the fewest ahead of the least", g.stopped(0, 4), 4);
        Check.due("likewise of a set", g.allStopped(0, 16), 4);
    }

    private static void allStopped() {
        SearchedAtTheGate g = Check.gate("l1004;l1015;l1026;l3077;p007;");
        Check.due("allStopped(0, 0)", g.allStopped(0, 0), 0);
        Check.due("allStopped(0, 1)", g.allStopped(0, 1), 1);
        Check.due("allStopped(0, 5)", g.allStopped(0, 5), 5);
        Check.due("allStopped(0, 7)", g.allStopped(0, 7), 7);
        Check.due("allStopped(0, 8)", g.allStopped(0, 8), -9);
        Check.due("allStopped(0, 15)", g.allStopped(0, 15), -9);
        Check.due("allStopped(0, 16)", g.allStopped(0, 16), -6);
        Check.due("allStopped(0, MAX)", g.allStopped(0, Integer.MAX_VALUE), -6);
        Check.due("allStopped(0, -1)", g.allStopped(0, -1), -4);
        Check.due("allStopped(1, -1)", g.allStopped(1, -1), -1);
        Check.due("without LAWS", Check.gate("p001;").allStopped(0, 0), 0);
        Check.due("all eight have to go", Check.gate(EIGHT + "p255;").allStopped(0, 255), 255);
        Check.due("a set without LAWS", Check.gate("p001;").allStopped(0, 1), -6);
    }

    private static void agrees() {
        SearchedAtTheGate g = Check.gate("l0001;p005;p006;p000;");
        Check.due("agrees(0, 0)", g.agrees(0, 0), 2);
        Check.due("agrees(0, 1)", g.agrees(0, 1), 1);
        Check.due("agrees(1, 0)", g.agrees(1, 0), 4);
        Check.due("agrees(1, 1)", g.agrees(1, 1), 0);
        Check.due("agrees(2, 0)", g.agrees(2, 0), 1);
        Check.due("agrees(2, 1)", g.agrees(2, 1), 0);
        Check.due("agrees(3, 2)", g.agrees(3, 2), -1);
        Check.due("agrees(0, 2)", g.agrees(0, 2), -2);
        Check.due("agrees(0, -1)", g.agrees(0, -1), -2);
        g = Check.gate("l4102;p003;");
        Check.due("either of two", g.agrees(0, 0), 3);
        Check.due("the least of two", g.agrees(0, 1), 1);
        g = Check.gate("l4203;l4213;p007;");
        Check.due("2 is lost by 0 and by 1", g.agrees(0, 0), 5);
        Check.due("the fewest ahead of the least", g.agrees(0, 1), 4);
        g = Check.gate("l2001;p003;");
        Check.due("all of them alone", g.agrees(0, 0), 1);
        Check.due("all of them", g.agrees(0, 1), 3);
        // EITHER of a THING and the same: it is gone.
        g = Check.gate("l2000;l2011;l2022;l2033;l2044;l2055;l2066;l2077;p255;");
        Check.due("all eight alone", g.agrees(0, 0), 1);
        Check.due("all eight", g.agrees(0, 1), 255);
    }

    private static void bring() {
        SearchedAtTheGate g = Check.gate(TWO_LOCKS + "p000;p002;p010;");
        Check.due("two at once", g.bring(0, 1), 10);
        Check.due("one more", g.bring(1, 1), 8);
        Check.due("done already", g.bring(2, 1), 0);
        Check.due("he has what is not to be had", g.bring(1, 0), -9);
        Check.due("bring(3, 0)", g.bring(3, 0), -1);
        Check.due("bring(-1, 0)", g.bring(-1, 0), -1);
        Check.due("bring(0, 3)", g.bring(0, 3), -1);
        Check.due("bring(0, -1)", g.bring(0, -1), -1);
        g = Check.gate("l2053;p001;");
        Check.due("the least of two", g.bring(0, 0), 8);
        // With 0 and 1 nothing gives 4, and without 4 he has 3; 2 alone gives it, too.
        g = Check.gate("l3004;l3014;l3243;l1023;l1437;p000;");
        Check.due("the fewest ahead of the least", g.bring(0, 4), 4);
    }

    private static void empty() {
        SearchedAtTheGate g = Check.gate(TWO_LOCKS);
        Check.due("empty(0)", g.empty(0), 5);
        Check.due("empty(1)", g.empty(1), 0);
        Check.due("empty(2)", g.empty(2), 2);
        Check.due("empty(3)", g.empty(3), -2);
        Check.due("empty(-1)", g.empty(-1), -2);
        g = Check.gate(TWO_CHAINS);
        Check.due("chains: empty(0)", g.empty(0), 0);
        Check.due("chains: empty(1)", g.empty(1), 10);
        Check.due("chains: empty(2)", g.empty(2), 2);
        g = Check.gate(EIGHT);
        Check.due("eight: empty(0)", g.empty(0), 0);
        Check.due("eight: empty(1)", g.empty(1), 255);
        Check.due("eight: empty(2)", g.empty(2), 8);
    }

    /** What all that is asked of a ROW refuses. */
    private static void rowsRefused(SearchedAtTheGate g) {
        for (int[] bad : new int[][] {{2}, {0, 98}, {99, 99, 99, 99, 99, 99, 99, 99, 99, 99, 99, 99, 99}}) {
            Check.row(g, bad);
            Check.due("had(0)", g.had(0), -3);
            Check.due("had(2)", g.had(2), -2);
            Check.due("inIt(0, 0)", g.inIt(0, 0), Check.refused(-3));
            Check.due("inIt(0, 2)", g.inIt(0, 2), Check.refused(-2));
            Check.due("inIt(8, 2)", g.inIt(8, 2), Check.refused(-1));
            Check.due("feel(0)", g.feel(0), -3);
            Check.due("feel(2)", g.feel(2), -2);
            Check.due("which(0, 0, 0)", g.which(0, 0, 0), -3);
            Check.due("which(0, 0, 3)", g.which(0, 0, 3), -2);
            Check.due("which(1, 0, 3)", g.which(1, 0, 3), -1);
            Check.due("the ROW stays", g.count(7), bad.length);
        }
    }

    private static void had() {
        SearchedAtTheGate g = Check.gate(TWO_CHAINS + "p000;");
        rowsRefused(g);
        int[][] rows = {{}, {0, 1}, {1}, {99}, {99, 0}, {0, 99}, {1, 99}, {0, 1, 99, 99, 99, 99, 99, 99, 99, 99, 99, 99}};
        int[] many = {256, 64, 64, 64, 0, 64, 64, 64};
        int[] least = {0, 10, 8, 0, -9, 2, 8, 10};
        for (int i = 0; i < rows.length; i++) {
            Check.row(g, rows[i]);
            Check.due("had(0) by ROW " + i, g.had(0), many[i]);
            Check.due("had(1) by ROW " + i, g.had(1), least[i]);
            Check.due("the ROW stays", g.count(7), rows[i].length);
        }
        Check.due("had(2)", g.had(2), -2);
        Check.due("had(-1)", g.had(-1), -2);
        Check.row(g, 98);
        Check.due("had(0) by a number that is no LAW", g.had(0), -3);
        g.clear();
        Check.due("had(0) without it", g.had(0), 256);
    }

    private static void inIt() {
        SearchedAtTheGate g = Check.gate(TWO_CHAINS);
        Check.row(g, 0);
        Check.fraction("1 in ROW 0", g.inIt(1, 0), g.inIt(1, 1), 1, 1);
        Check.fraction("3 in ROW 0", g.inIt(3, 0), g.inIt(3, 1), 1, 2);
        Check.row(g, 0, 99);
        Check.fraction("3 in ROW 0, 99", g.inIt(3, 0), g.inIt(3, 1), 0, 1);
        Check.row(g, 99, 0);
        Check.fraction("3 in no ROW", g.inIt(3, 0), g.inIt(3, 1), 0, 1);
        g = Check.gate("l2001;");
        Check.row(g, 0);
        Check.fraction("0 where either is", g.inIt(0, 0), g.inIt(0, 1), 2, 3);
        Check.due("inIt(8, 0)", g.inIt(8, 0), Check.refused(-1));
        Check.due("inIt(-1, 2)", g.inIt(-1, 2), Check.refused(-1));
        Check.due("inIt(7, 2)", g.inIt(7, 2), Check.refused(-2));
        Check.due("inIt(7, -1)", g.inIt(7, -1), Check.refused(-2));
        Check.due("refused -1", g.count(11), 2);
        Check.due("refused -2", g.count(12), 2);
    }

    private static void feel() {
        SearchedAtTheGate g = Check.gate("l2001;");
        Check.due("feel(0) by no ROW", g.feel(0), 0);
        Check.due("feel(1) by no ROW", g.feel(1), 128);
        Check.row(g, 0);
        Check.due("feel(0)", g.feel(0), 2);
        Check.due("feel(1)", g.feel(1), 96);
        Check.row(g, 99);
        Check.due("feel(0) by 99", g.feel(0), 2);
        Check.due("feel(1) by 99", g.feel(1), 32);
        Check.row(g, 99, 0);
        Check.due("feel(0) of none", g.feel(0), -9);
        Check.due("feel(1) of none", g.feel(1), -9);
        Check.due("feel(2)", g.feel(2), -2);
        Check.due("feel(-1)", g.feel(-1), -2);
        g = Check.gate(EIGHT);
        Check.row(g, 0, 1, 2, 3, 4, 5, 6);
        Check.due("feel(0) of two", g.feel(0), 7);
        Check.due("feel(1) of two", g.feel(1), 1);
        g.row(7);
        Check.due("one alone", g.had(0), 1);
        Check.due("feel(0) of one", g.feel(0), 0);
        Check.due("feel(1) of one", g.feel(1), 0);
        Check.due("the ROW stays", g.count(7), 8);
        Check.due("nothing is refused", g.count(11) + g.count(12) + g.count(13), 0);
        // Whoever does nothing has 5, and none of the others: one POCKETS, parted into one and none.
        g = Check.gate("l1000;l1011;l1022;l1033;l1044;l1066;l1077;l3055;");
        Check.row(g, 99);
        Check.due("had(0) of 5 alone", g.had(0), 1);
        Check.due("had(1) of 5 alone", g.had(1), 32);
        Check.due("feel(0) of 5 alone", g.feel(0), 0);
        Check.due("feel(1) of 5 alone", g.feel(1), 0);
    }

    private static void which(SearchedAtTheGate g, int law, int kinds, int figures, int wanteds) {
        Check.due("which(0, " + law + ", 0)", g.which(0, law, 0), kinds);
        Check.due("which(0, " + law + ", 1)", g.which(0, law, 1), figures);
        Check.due("which(0, " + law + ", 2)", g.which(0, law, 2), wanteds);
    }

    private static void which() {
        SearchedAtTheGate g = Check.gate("l1001;l0534;p001;");
        which(g, 0, 63, 1023, 255);
        Check.row(g, 0);
        which(g, 0, 1 + 2 + 4 + 16, 1, 1);
        which(g, 1, 63, 1023, 255);
        Check.row(g, 99, 0);
        which(g, 0, 0, 2, 0);
        Check.row(g, 0, 99, 99, 99, 99, 1);
        which(g, 0, 0, 0, 0);
        which(g, 1, 8, 0, 3);
        Check.due("the LAW stays", g.lawOf(1, 0) * 100 + g.lawOf(1, 1) * 10 + g.lawOf(1, 2), 53);
        Check.due("the ROW stays", g.count(7), 6);
        Check.due("which(1, 0, 3)", g.which(1, 0, 3), -1);
        Check.due("which(-1, 0, 3)", g.which(-1, 0, 3), -1);
        Check.due("which(0, 2, 3)", g.which(0, 2, 3), -1);
        Check.due("which(0, -1, 3)", g.which(0, -1, 3), -1);
        Check.due("which(0, 0, 3)", g.which(0, 0, 3), -2);
        Check.due("which(0, 0, -1)", g.which(0, 0, -1), -2);
    }

    private static void theTray() {
        SearchedAtTheGate g = Check.gate(TWO_CHAINS + "p010;p010;t01;t13;");
        Check.due("tray(0)", g.tray(0), 10);
        Check.due("tray(1)", g.tray(1), 2);
        Check.due("onTray(0)", g.onTray(0), 2);
        Check.due("onTray(1)", g.onTray(1), 8);
        Check.due("onTray(2)", g.onTray(2), -1);
        Check.due("onTray(-1)", g.onTray(-1), -1);
        Check.due("tray(2)", g.tray(2), -2);
        Check.due("tray(-1)", g.tray(-1), -2);
        g = Check.gate(TWO_CHAINS + "p008;p002;p000;p014;t03;t11;");
        Check.due("three for two THINGS", g.tray(1), 2);
        Check.due("onTray(0)", g.onTray(0), 10);
        Check.due("onTray(3)", g.onTray(3), 0);
        g = Check.gate(TWO_CHAINS + "p008;p010;t03;t11;");
        Check.due("the first must leave 1 to the other", g.tray(1), 2);
        g = Check.gate(TWO_CHAINS + "p010;p008;t01;");
        Check.due("one THING for two", g.tray(1), 1);
        g = Check.gate("l1001;l1012;l1023;p002;p004;t01;t12;");
        Check.due("chosen so that both have", g.tray(1), 2);
        g = Check.gate("l5000;p001;t00;");
        Check.due("THE TRAY stays as it is", g.onTray(0), 1);
        Check.due("without PEOPLE", Check.gate("l5000;").tray(1), 0);
        g = Check.gate("l1001;p001;p000;t00;");
        Check.due("0 for one of two", g.tray(1), 1);
        Check.due("0 for the one", g.onTray(0), 1);
    }

    private static void guard() {
        SearchedAtTheGate g = Check.gate("l1014;l1025;p006;p000;p012;");
        Check.due("guard(0, 0)", g.guard(0, 0), 1);
        Check.due("guard(0, 1)", g.guard(0, 1), 1);
        Check.due("guard(1, 0)", g.guard(1, 0), 1);
        Check.due("guard(1, 1)", g.guard(1, 1), 8);
        Check.due("guard(2, 0)", g.guard(2, 0), 1);
        Check.due("guard(2, 1)", g.guard(2, 1), 2);
        Check.due("guard(3, 2)", g.guard(3, 2), -1);
        Check.due("guard(0, 2)", g.guard(0, 2), -2);
        Check.due("guard(0, -1)", g.guard(0, -1), -2);
        g = Check.gate("l3014;p002;");
        Check.due("better left as it is", g.guard(0, 0), 0);
        Check.due("none", g.guard(0, 1), 8);
        g = Check.gate("l3014;p000;");
        Check.due("the striker may bring none", g.guard(0, 0), 1);
        g = Check.gate("l1004;p000;");
        Check.due("the striker may bring 0", g.guard(0, 0), 1);
        g = Check.gate("l1004;p003;");
        Check.due("0 is taken", g.guard(0, 1), 0);
        g = Check.gate("l1074;p000;");
        Check.due("the striker may bring 7", g.guard(0, 0), 1);
        g = Check.gate("l1014;p002;");
        Check.due("what was taken can't be brought", g.guard(0, 0), 0);
        Check.due("it is taken", g.guard(0, 1), 1);
    }

    private static void rounds() {
        Check.due("without PEOPLE", Check.gate("l0001;").rounds(), 1);
        Check.due("as now", Check.gate("l0001;p002;").rounds(), 1);
        Check.due("as behind the first", Check.gate("l0001;p001;").rounds(), 2);
        SearchedAtTheGate g = Check.gate("l2001;p000;p001;");
        Check.due("there and back", g.rounds(), 2);
        Check.due("the DAY stays", g.count(2), 0);
        Check.due("POCKETS stay", g.pockets(1), 1);
        // One comes round in 12 DAYS, another in 5; the others are one DAY from that.
        String wheels = "l2424;l5462;l2714;l2436;l1623;l5713;l2654;l3270;l2861;l2803;";
        Check.due("round in 60", Check.gate(wheels + "p148;p039;p021;").rounds(), 60);
        Check.due("round in 61", Check.gate(wheels + "p132;p006;p012;").rounds(), -9);
        Check.due("all of them at once", Check.gate("l2001;l0823;p001;p004;").rounds(), 3);
    }

    private static void chance(String mill, int t, long above, long below) {
        SearchedAtTheGate g = Check.gate(mill);
        Check.fraction(mill + " chance(0, 0, " + t + ")", g.chance(0, 0, t, 0), g.chance(0, 0, t, 1), above, below);
    }

    private static void chance() {
        chance("l1004;p001;", 2, 1, 2);
        chance("l1004;p255;", 20, 19, 20);
        chance("l3004;p001;", 7, 1, 7);
        chance("l2001;p003;", 3, 8, 9);
        chance("l1004;p002;", 5, 0, 1);
        chance("l3004;p000;", 5, 1, 1);
        chance("l3004;p254;", 20, 1, 1);
        // 1 of all 8 in 20 to the power of 8.
        chance("l3870;l1107;l1117;l1127;l1137;l1147;l1157;l1167;p255;", 20, 1, 25600000000L);
        SearchedAtTheGate g = Check.gate("l1004;p001;");
        Check.due("chance(1, 0, 1, 2)", g.chance(1, 0, 1, 2), Check.refused(-1));
        Check.due("chance(-1, 0, 2, 0)", g.chance(-1, 0, 2, 0), Check.refused(-1));
        Check.due("chance(0, 1, 2, 0)", g.chance(0, 1, 2, 0), Check.refused(-1));
        Check.due("chance(0, -1, 2, 0)", g.chance(0, -1, 2, 0), Check.refused(-1));
        Check.due("chance(0, 0, 1, 2)", g.chance(0, 0, 1, 2), Check.refused(-4));
        Check.due("chance(0, 0, MIN, 0)", g.chance(0, 0, Integer.MIN_VALUE, 0), Check.refused(-4));
        Check.due("chance(0, 0, 21, 2)", g.chance(0, 0, 21, 2), Check.refused(-6));
        Check.due("chance(0, 0, 20, 2)", g.chance(0, 0, 20, 2), Check.refused(-2));
        Check.due("chance(0, 0, 20, -1)", g.chance(0, 0, 20, -1), Check.refused(-2));
    }

    private static void judge() {
        SearchedAtTheGate g = Check.gate("l1001;l1312;p001;");
        int[][] rows = {{}, {0, 99, 99, 1}, {0, 1}, {99}, {0, 99, 99, 50}, {0, 99, 99, 1, 99, 99, 99, 99, 99, 99, 99, 99},
            {0, 99, 99, 1, 99, 99, 99, 99, 99, 99, 99, 99, 0}, {0, 99, 99, 1, 99, 99, 99, 99, 99, 99, 99, 99, 1, 0},
            {0, 99, 99, 1, 99, 99, 99, 99, 99, 99, 99, 99, 99}, {0, 99, 99, 1, 99, 99, 99, 99, 99, 99, 99, 99, 99, 0, 0, 0}};
        int[] wrong = {-9, -9, 1, 0, 3, -9, 12, 12, 12, 12};
        for (int i = 0; i < rows.length; i++) {
            Check.row(g, rows[i]);
            Check.due("judge(1)", g.judge(1), -1);
            Check.due("judge(-1)", g.judge(-1), -1);
            Check.due("the ROW stays", g.count(7), rows[i].length);
            Check.due("judge(0) of ROW " + i, g.judge(0), wrong[i]);
            Check.due("the ROW has none", g.count(7), 0);
        }
    }

    private static void lots() {
        SearchedAtTheGate g = Check.gate("l1004;l1015;p255;p003;");
        // Of seed 5 the DRAWS are 7, 1, 0, 5.
        Check.due("lots(1, 5, 0)", g.lots(1, 5, 0), 3);
        Check.due("lots(1, 5, 1)", g.lots(1, 5, 1), 2);
        Check.due("lots(2, 5, 0)", g.lots(2, 5, 0), 6);
        Check.due("lots(2, 5, 1)", g.lots(2, 5, 1), 3);
        // Of seed -7 they are 4, 1, 3, 7.
        Check.due("lots(2, -7, 0)", g.lots(2, -7, 0), 7);
        Check.due("lots(2, -7, 1)", g.lots(2, -7, 1), 3);
        Check.due("POCKETS stay", g.pockets(0), 255);
        Check.due("lots(0, 5, 2)", g.lots(0, 5, 2), -4);
        Check.due("lots(21, 5, 2)", g.lots(21, 5, 2), -6);
        Check.due("lots(20, 5, 2)", g.lots(20, 5, 2), -2);
        Check.due("lots(1, 5, -1)", g.lots(1, 5, -1), -2);
        // Of seed 0 they are 0, 4, 4, 5, 2, 7, ..: each morning POCKETS are as they are now.
        g = Check.gate("l0004;p255;");
        Check.due("lots(20, 0, 1)", g.lots(20, 0, 1), 20);
        Check.due("lots(4, 0, 0)", g.lots(4, 0, 0), 3);
        Check.due("lots without PEOPLE", new SearchedAtTheGate().lots(20, 1, 1), 0);
    }
}
