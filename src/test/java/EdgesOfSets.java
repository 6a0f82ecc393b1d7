import java.util.function.Supplier;
import java.util.function.ToLongFunction;

/** Edges of promises 18 to 22: the fewest THINGS to take or to bring, sets that agree, empty POCKETS. */
final class EdgesOfSets {
    private static final int MIN = Edges.MIN;
    private static final int MAX = Edges.MAX;
    /** Every THING gives 7, and LAW 7 wants 7. */
    private static final String ANY_OF_EIGHT = "l1007;l1017;l1027;l1037;l1047;l1057;l1067;l1077;";
    /** TEMPER at 9 is done in HOUR 10 alone; each THING that he has not leaves that HOUR to a LAW ahead of it. */
    private static final String ALL_OF_EIGHT = "l1977;l3900;l3911;l3922;l3933;l3944;l3955;l3966;l4977;";
    /** LAW 0 is done without THING 6, LAW 1 with 0, LAW 2 with 1, LAW 3 without 0. */
    private static final String FOUR = "l3664;l1004;l1015;l3005;";
    private static final Supplier<SearchedAtTheGate> WORLD = () -> Check.gate(FOUR + "p003;p000;p255;");

    private EdgesOfSets() {
    }

    private static void noSuchOneOrLaw(String call, ToLongFunction<SearchedAtTheGate> act) {
        Edges.refused(call, -1, WORLD, act);
    }

    // ---- 18 stopped: "STOPPED (bits); -9. -1 either."; "-9 it is done all the same"; "of several the least" ----

    static void promise18NotDoneAnyway() {
        Edges.stays("stopped(1, 1)", 0, WORLD, g -> g.stopped(1, 1));
        Edges.stays("stopped(0, 3)", 0, WORLD, g -> g.stopped(0, 3));
    }

    static void promise18DoneAllTheSame() {
        Edges.stays("stopped(0, 0)", -9, WORLD, g -> g.stopped(0, 0));
        Edges.stays("stopped(1, 0) of one with nothing", -9, WORLD, g -> g.stopped(1, 0));
        Edges.stays("stopped(1, 3) of one with nothing", -9, WORLD, g -> g.stopped(1, 3));
    }

    static void promise18OneThing() {
        Edges.stays("stopped(0, 1)", 1, WORLD, g -> g.stopped(0, 1));
        Edges.stays("stopped(0, 2)", 2, WORLD, g -> g.stopped(0, 2));
        Check.due("THING 7", Check.gate("l1070;p255;").stopped(0, 0), 128);
    }

    static void promise18AllEightHaveToGo() {
        Check.due("stopped(0, 7)", Check.gate(ANY_OF_EIGHT + "p255;").stopped(0, 7), 255);
        Check.due("of what he has", Check.gate(ANY_OF_EIGHT + "p160;").stopped(0, 7), 160);
    }

    static void promise18OfSeveralTheLeast() {
        Check.due("0 or 1", Check.gate("l3004;l3014;l3845;p003;").stopped(0, 2), 1);
        Check.due("6 or 7", Check.gate("l3061;l3071;l3810;p192;").stopped(0, 2), 64);
    }

    static void promise18TheFewestAheadOfTheLeast() {
        // Without 2 he has 4, and by it 3 is gone; without 0 and 1 there never was a 3.
        Check.due("4 ahead of 3", Check.gate("l1003;l1013;l3124;l4345;l1537;p007;").stopped(0, 4), 4);
    }

    static void promise18TheTrayAsItIsTold() {
        Check.due("what is taken in mind lies not there", Check.gate("l5011;p003;").stopped(0, 0), 0);
    }

    static void promise18Refused() {
        for (int person : new int[] {-1, 3, MIN, MAX}) noSuchOneOrLaw("stopped(" + person + ", 0)", g -> g.stopped(person, 0));
        for (int law : new int[] {-1, 4, MIN, MAX}) noSuchOneOrLaw("stopped(0, " + law + ")", g -> g.stopped(0, law));
        Check.due("the last of all", Check.gate(Edges.TEN + Edges.SIX).stopped(5, 9), 1);
    }

    // ---- 19 allStopped: "-9. -1; -4; -6 bits of no LAW." ----

    static void promise19NoLawOfNone() {
        Edges.stays("allStopped(0, 0)", 0, WORLD, g -> g.allStopped(0, 0));
        Edges.stays("allStopped(0, 0) without LAWS", 0, () -> Check.gate("p255;"), g -> g.allStopped(0, 0));
    }

    static void promise19AllOfTheSet() {
        Edges.stays("allStopped(0, 6)", 3, WORLD, g -> g.allStopped(0, 6));
        Edges.stays("allStopped(2, 6)", 3, WORLD, g -> g.allStopped(2, 6));
        Check.due("all eight", Check.gate(Edges.EIGHT + "p255;").allStopped(0, 255), 255);
    }

    static void promise19OneOfThemIsDoneAllTheSame() {
        Edges.stays("allStopped(0, 1)", -9, WORLD, g -> g.allStopped(0, 1));
        Edges.stays("allStopped(0, 15)", -9, WORLD, g -> g.allStopped(0, 15));
        // LAW 1 stops without THING 0 alone, and LAW 3 with it alone.
        Edges.stays("allStopped(0, 10)", -9, WORLD, g -> g.allStopped(0, 10));
    }

    static void promise19OfSeveralTheLeast() {
        Check.due("0 or 1", Check.gate("l3004;l3014;l3845;p003;").allStopped(0, 4), 1);
        Check.due("6 or 7", Check.gate("l3061;l3071;l3810;p192;").allStopped(0, 4), 64);
    }

    static void promise19TheFewestAheadOfTheLeast() {
        Check.due("4 ahead of 3", Check.gate("l1003;l1013;l3124;l4345;l1537;p007;").allStopped(0, 16), 4);
    }

    static void promise19NoneOfThemIsDone() {
        Edges.stays("allStopped(1, 6)", 0, WORLD, g -> g.allStopped(1, 6));
    }

    static void promise19TheLastSetOfLaws() {
        Edges.stays("allStopped(2, 15)", -9, WORLD, g -> g.allStopped(2, 15));
        Check.due("of ten", Check.gate(Edges.TEN + "p001;").allStopped(0, 1023), 1);
    }

    static void promise19BitsOfNoLaw() {
        for (int set : new int[] {16, 17, 31, 1024, MAX}) {
            Edges.refused("allStopped(0, " + set + ")", -6, WORLD, g -> g.allStopped(0, set));
        }
        Edges.refused("allStopped(0, 1) without LAWS", -6, () -> Check.gate("p001;"), g -> g.allStopped(0, 1));
        Edges.refused("allStopped(0, 1024) of ten", -6, () -> Check.gate(Edges.TEN + "p001;"), g -> g.allStopped(0, 1024));
    }

    static void promise19Below() {
        for (int set : new int[] {-1, -16, MIN}) Edges.refused("allStopped(0, " + set + ")", -4, WORLD, g -> g.allStopped(0, set));
    }

    static void promise19NobodyFirst() {
        for (int person : new int[] {-1, 3, MIN, MAX}) noSuchOneOrLaw("allStopped(" + person + ", 0)", g -> g.allStopped(person, 0));
        noSuchOneOrLaw("allStopped(3, -1)", g -> g.allStopped(3, -1));
        noSuchOneOrLaw("allStopped(-1, 16)", g -> g.allStopped(-1, 16));
    }

    // ---- 20 agrees: "how many (what 0), the fewest (1, bits). -1; -2."; "sets of his POCKETS (none, too)" ----

    private static void agrees(String mill, int many, int fewest) {
        Edges.stays(mill + " agrees(0, 0)", many, () -> Check.gate(mill), g -> g.agrees(0, 0));
        Edges.stays(mill + " agrees(0, 1)", fewest, () -> Check.gate(mill), g -> g.agrees(0, 1));
    }

    static void promise20EmptyPockets() {
        agrees("l0001;p000;", 1, 0);
        agrees("p000;", 1, 0);
    }

    static void promise20EachSetOfAllEight() {
        agrees("p255;", 256, 0);
        agrees(Edges.EIGHT + "p255;", 256, 0);
    }

    static void promise20OnlyAllOfThem() {
        agrees("l2000;l2011;l2022;l2033;l2044;l2055;l2066;l2077;p255;", 1, 255);
        agrees("l0001;p001;", 1, 1);
    }

    static void promise20OfSeveralTheLeast() {
        agrees("l4102;p003;", 3, 1);
        agrees("l4760;p192;", 3, 64);
    }

    static void promise20TheFewestAheadOfTheLeast() {
        // THING 2 is lost by 0 and by 1.
        agrees("l4203;l4213;p007;", 5, 4);
    }

    static void promise20WhatCameIsNotLost() {
        agrees("l0001;p005;", 2, 1);
        agrees("l1001;l0110;p001;", 2, 0);
    }

    static void promise20Refused() {
        for (int person : new int[] {-1, 3, MIN, MAX}) noSuchOneOrLaw("agrees(" + person + ", 0)", g -> g.agrees(person, 0));
        noSuchOneOrLaw("agrees(3, 2)", g -> g.agrees(3, 2));
        for (int what : new int[] {-1, 2, MIN, MAX}) Edges.refused("agrees(0, " + what + ")", -2, WORLD, g -> g.agrees(0, what));
    }

    // ---- 21 bring: "BRING (bits); -9. -1 either." ----

    static void promise21DoneAlready() {
        Edges.stays("bring(0, 1)", 0, WORLD, g -> g.bring(0, 1));
        Edges.stays("bring(1, 0)", 0, WORLD, g -> g.bring(1, 0));
        Edges.stays("bring(2, 2) of one with all", 0, WORLD, g -> g.bring(2, 2));
    }

    static void promise21NothingHelps() {
        Edges.stays("bring(0, 3)", -9, WORLD, g -> g.bring(0, 3));
        Edges.stays("bring(2, 3) of one with all", -9, WORLD, g -> g.bring(2, 3));
        Check.due("DUST with an empty TRAY", Check.gate("l5001;p000;").bring(0, 0), -9);
    }

    static void promise21OneThing() {
        Edges.stays("bring(1, 1)", 1, WORLD, g -> g.bring(1, 1));
        Check.due("THING 7", Check.gate("l1070;p000;").bring(0, 0), 128);
        Check.due("THING 7 of one with the others", Check.gate("l1070;p127;").bring(0, 0), 128);
    }

    static void promise21TwoAtOnce() {
        // Without 1 he has 4, without 3 too, and with 4 he does not do LAW 1.
        String twoLocks = "l3014;l3245;l3034;";
        Check.due("both", Check.gate(twoLocks + "p000;").bring(0, 1), 10);
        Check.due("the other", Check.gate(twoLocks + "p002;").bring(0, 1), 8);
        Check.due("nothing more", Check.gate(twoLocks + "p010;").bring(0, 1), 0);
        Check.due("of one who has 4", Check.gate(twoLocks + "p016;").bring(0, 1), -9);
    }

    static void promise21AllEightAtOnce() {
        Check.due("all", Check.gate(ALL_OF_EIGHT + "p000;").bring(0, 8), 255);
        Check.due("all but the first", Check.gate(ALL_OF_EIGHT + "p001;").bring(0, 8), 254);
        Check.due("all but the last", Check.gate(ALL_OF_EIGHT + "p128;").bring(0, 8), 127);
        Check.due("none", Check.gate(ALL_OF_EIGHT + "p255;").bring(0, 8), 0);
    }

    static void promise21TheTrayAsItIsTold() {
        Check.due("it still lies there", Check.gate("l5000;p001;t00;").bring(0, 0), 1);
    }

    static void promise21OfSeveralTheLeast() {
        Check.due("3 or 5", Check.gate("l2053;p001;").bring(0, 0), 8);
        Check.due("0 or 7", Check.gate("l2070;p000;").bring(0, 0), 1);
    }

    static void promise21TheFewestAheadOfTheLeast() {
        // With 0 and 1 nothing gives 4, and without 4 he has 3; 2 alone gives it, too.
        Check.due("4 ahead of 3", Check.gate("l3004;l3014;l3243;l1023;l1437;p000;").bring(0, 4), 4);
    }

    static void promise21Refused() {
        for (int person : new int[] {-1, 3, MIN, MAX}) noSuchOneOrLaw("bring(" + person + ", 0)", g -> g.bring(person, 0));
        for (int law : new int[] {-1, 4, MIN, MAX}) noSuchOneOrLaw("bring(0, " + law + ")", g -> g.bring(0, law));
        Check.due("the last of all", Check.gate(Edges.TEN + Edges.SIX).bring(5, 9), 0);
    }

    // ---- 22 empty: "EMPTY (what 0, bits), MOST DONE (1), how many (2). -2."; "(0 .. 255)"; "of several the least" ----

    private static void empty(String mill, int... due) {
        for (int what = 0; what < 3; what++) {
            int about = what;
            Edges.stays(mill + " empty(" + what + ")", due[what], () -> Check.gate(mill), g -> g.empty(about));
        }
    }

    static void promise22WithoutLaws() {
        empty("", 0, 0, 0);
        empty("p255;", 0, 0, 0);
    }

    static void promise22AllTenWithEmptyPockets() {
        empty("l3001;".repeat(10), 1023, 0, 10);
    }

    static void promise22TheGreatestPockets() {
        empty(Edges.EIGHT, 0, 255, 8);
    }

    static void promise22OfSeveralTheLeast() {
        empty("l1070;", 0, 128, 1);
        empty("l2070;", 0, 1, 1);
        empty("l1012;l1034;", 0, 10, 2);
    }

    static void promise22TheTrayAsItIsTold() {
        empty("l5000;p001;t00;", 0, 1, 1);
    }

    static void promise22NothingIsEverDone() {
        empty("l5001;", 0, 0, 0);
    }

    static void promise22Refused() {
        for (int what : new int[] {-1, 3, MIN, MAX}) Edges.refused("empty(" + what + ")", -2, WORLD, g -> g.empty(what));
        Edges.refused("empty(3) of a new object", -2, Edges::bare, g -> g.empty(3));
    }
}
