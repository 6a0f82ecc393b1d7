import java.util.ArrayList;
import java.util.List;
import java.util.function.Supplier;

/** Edges of promises 27 to 31 and 50: THE TRAY, guard and striker, rounds, takings by chance and mornings by lot. */
final class EdgesOfTheTray {
    private static final int MIN = Edges.MIN;
    private static final int MAX = Edges.MAX;
    private static final String FULL_TRAY = "p255;t00;t01;t02;t03;t04;t05;t06;t07;";
    /** One comes round in 12 DAYS, another in 5; two others are one DAY from that. */
    private static final String WHEELS = "l2424;l5462;l2714;l2436;l1623;l5713;l2654;l3270;l2861;l2803;";

    private EdgesOfTheTray() {
    }

    private static Supplier<SearchedAtTheGate> world(String mill) {
        return () -> Check.gate(mill);
    }

    private static Supplier<SearchedAtTheGate> world(String mill, String more) {
        return () -> {
            SearchedAtTheGate g = Check.gate(mill);
            if (!more.isEmpty()) Check.due("the mill " + more, Check.tell(g, more) > 0 ? 1 : 0, 1);
            return g;
        };
    }

    // ---- 27 tray: "THE TRAY (what 0, bits), WHOSE (1). -2." ----

    private static void tray(String mill, String more, int there, int whose) {
        Edges.stays(mill + more + " tray(0)", there, world(mill, more), g -> g.tray(0));
        Edges.stays(mill + more + " tray(1)", whose, world(mill, more), g -> g.tray(1));
    }

    static void promise27AnEmptyTray() {
        tray(Edges.EIGHT + "p000;p000;", "", 0, 0);
    }

    static void promise27WithoutPeople() {
        Edges.stays("tray(0)", 0, Edges::bare, g -> g.tray(0));
        Edges.stays("tray(1)", 0, Edges::bare, g -> g.tray(1));
    }

    static void promise27AFullTray() {
        tray(Edges.EIGHT, FULL_TRAY, 255, 1);
        tray(Edges.EIGHT, FULL_TRAY + "p000;p000;", 255, 3);
    }

    static void promise27AllSixAreServed() {
        tray(Edges.EIGHT, FULL_TRAY + "p000;".repeat(5), 255, 6);
        tray(Edges.EIGHT + "p063;".repeat(5), "p255;t56;t57;t55;t54;t53;t52;", 252, 3);
    }

    static void promise27OneThingForSeveral() {
        tray(Edges.EIGHT + "p000;p000;p001;", "t20;", 1, 1);
        tray(Edges.EIGHT + "p000;p000;p128;", "t27;", 128, 1);
    }

    static void promise27SeveralThingsForOne() {
        tray(Edges.EIGHT + "p255;p255;", "t00;t01;t02;", 7, 1);
    }

    static void promise27NobodyDoesMore() {
        tray("p000;p001;", "t10;", 1, 0);
        tray("l3000;p001;p000;", "t00;", 1, 0);
    }

    static void promise27TheOneMustLeaveItToTheOther() {
        // The one does more by 1 or by 3, the other by 1 alone, in either order of theirs.
        tray("l1012;l1034;p008;p010;", "t03;t11;", 10, 2);
        tray("l1012;l1034;p010;p008;", "t03;t01;b03;t13;", 10, 2);
        // The third does more by 0 alone, the second by 0 or 1, the first by each of three.
        tray("l1000;l1011;l1022;p004;p006;p007;", "t02;t11;t20;", 7, 3);
    }

    /** Each call asks anew: what was found ahead of it is no more. */
    static void promise27AskedAgain() {
        SearchedAtTheGate g = world(Edges.EIGHT, FULL_TRAY + "p000;".repeat(5)).get();
        Check.due("tray(1)", g.tray(1), 6);
        Check.due("tray(1) again", g.tray(1), 6);
        g.clears();
        Check.due("tray(1) of an empty TRAY", g.tray(1), 0);
    }

    static void promise27Refused() {
        for (int what : new int[] {-1, 2, MIN, MAX}) {
            Edges.refused("tray(" + what + ")", -2, Edges::some, g -> g.tray(what));
            Edges.refused("tray(" + what + ") of a new object", -2, Edges::bare, g -> g.tray(what));
        }
    }

    // ---- 28 onTray: "ON THE TRAY for one (bits). -1."; "more LAWS than now" ----

    private static void onTray(String mill, String more, int person, int due) {
        Edges.stays(mill + more + " onTray(" + person + ")", due, world(mill, more), g -> g.onTray(person));
    }

    static void promise28AnEmptyTray() {
        onTray(Edges.EIGHT + "p000;", "", 0, 0);
    }

    static void promise28AFullTray() {
        onTray(Edges.EIGHT + "p000;", "p255;t10;t11;t12;t13;t14;t15;t16;t17;", 0, 255);
        onTray("l1000;l1077;p000;", "p255;t10;t11;t12;t13;t14;t15;t16;t17;", 0, 129);
    }

    static void promise28WhatHeHasAlreadyIsNoMore() {
        onTray(Edges.EIGHT + "p001;p001;", "t10;", 0, 0);
        onTray(Edges.EIGHT + "p001;p001;", "t10;", 1, 1);
        onTray("l3004;p001;p001;", "t10;", 0, 0);
    }

    static void promise28AsManyIsNotMore() {
        onTray("l3004;l1015;p001;p002;", "t00;t11;", 0, 2);
        onTray("l3004;l1005;p001;", "t00;", 0, 0);
    }

    static void promise28TheTrayAsItIs() {
        // DUST needs something on THE TRAY; given to him it still lies there.
        onTray("l5000;p001;", "t00;", 0, 1);
    }

    static void promise28Refused() {
        for (int person : new int[] {-1, 3, MIN, MAX}) Edges.refused("onTray(" + person + ")", -1, Edges::some, g -> g.onTray(person));
        Edges.refused("onTray(0) of nobody", -1, Edges::bare, g -> g.onTray(0));
        Edges.refused("onTray(6) of six", -1, Edges::full, g -> g.onTray(6));
    }

    // ---- 29 guard: "how many (what 0), the THING (1). -1; -2."; "(the least, none: 8 the last)" ----

    private static void guard(String mill, int many, int thing) {
        Edges.stays(mill + " guard(0, 0)", many, world(mill), g -> g.guard(0, 0));
        Edges.stays(mill + " guard(0, 1)", thing, world(mill), g -> g.guard(0, 1));
    }

    static void promise29NothingToTake() {
        guard("p000;", 0, 8);
        guard("l1000;p000;", 1, 8);
    }

    static void promise29TheLeastAheadOfNone() {
        guard("p255;", 0, 0);
        guard("p128;", 0, 7);
        guard("l3904;l3804;p006;", 2, 1);
    }

    static void promise29NoneAsTheLast() {
        // Whatever is taken, one LAW more is done.
        guard("l3024;l3034;p012;", 0, 8);
    }

    static void promise29TheFirstAndTheLastThing() {
        guard("l1000;p255;", 0, 0);
        guard("l1077;p255;", 0, 7);
        guard("l1077;l1000;p129;", 1, 0);
    }

    static void promise29NothingThatWasTaken() {
        guard("l1014;p002;", 0, 1);
        guard("l1014;p000;", 1, 8);
    }

    static void promise29TheStrikerBringsTheFirstOrTheLast() {
        guard("l1004;p000;", 1, 8);
        guard("l1074;p000;", 1, 8);
    }

    static void promise29TheStrikerBringsNone() {
        guard("l3014;p000;", 1, 8);
        guard("l3000;l3011;l3022;l3033;l3044;l3055;l3066;l3077;p000;", 8, 8);
    }

    static void promise29AllTenInAnyCase() {
        guard("l3001;".repeat(10) + "p000;", 10, 8);
        guard("l3001;".repeat(10) + "p130;", 10, 1);
    }

    static void promise29TheTrayAsItIsTold() {
        guard("l5000;p001;t00;", 1, 8);
        guard("l5011;p003;", 0, 0);
    }

    static void promise29Refused() {
        for (int person : new int[] {-1, 3, MIN, MAX}) {
            Edges.refused("guard(" + person + ", 0)", -1, Edges::some, g -> g.guard(person, 0));
            Edges.refused("guard(" + person + ", 2)", -1, Edges::some, g -> g.guard(person, 2));
        }
        for (int what : new int[] {-1, 2, MIN, MAX}) Edges.refused("guard(0, " + what + ")", -2, Edges::some, g -> g.guard(0, what));
    }

    // ---- 30 rounds: "the first n (1 .. 60) .. as behind some DAY ahead (or as now): n; -9" ----

    private static void rounds(String mill, int due) {
        Edges.stays(mill + " rounds()", due, world(mill), g -> g.rounds());
    }

    static void promise30WithoutPeople() {
        Edges.stays("rounds()", 1, Edges::bare, g -> g.rounds());
        rounds("l0001;", 1);
    }

    static void promise30AsNow() {
        rounds("p255;p000;", 1);
        rounds("l0001;p002;", 1);
        rounds("l2001;p001;", 2);
    }

    static void promise30AsBehindSomeDayAhead() {
        rounds("l0001;p001;", 2);
        rounds("l2001;l0823;p001;p004;", 3);
    }

    /** By DAYS that go by, as day() tells them: nothing comes again ahead of the n-th. */
    private static int comesAgain(SearchedAtTheGate g, int days) {
        List<Long> seen = new ArrayList<>();
        for (int n = 0; n <= days; n++) {
            long pockets = 0;
            for (int person = 0; person < g.count(1); person++) pockets = pockets * 256 + g.pockets(person);
            if (seen.contains(pockets)) return n;
            seen.add(pockets);
            g.day();
        }
        return -9;
    }

    static void promise30TheSixtieth() {
        Check.due("by DAYS", comesAgain(Check.gate(WHEELS + "p148;p039;p021;"), 70), 60);
        rounds(WHEELS + "p148;p039;p021;", 60);
    }

    static void promise30TheSixtyFirstIsTooLate() {
        Check.due("by DAYS", comesAgain(Check.gate(WHEELS + "p132;p006;p012;"), 70), 61);
        rounds(WHEELS + "p132;p006;p012;", -9);
    }

    static void promise30DaysInMindHaveNoLast() {
        SearchedAtTheGate g = new SearchedAtTheGate();
        for (int i = 0; i < 400; i++) g.day();
        Check.due("rounds()", g.rounds(), 1);
        Check.due("count(2)", g.count(2), 400);
    }

    // ---- 31 chance: "part likewise. Refused as told: -1 either; -4; -6 20; -2."; "odds 1 in t (2 .. 20)" ----

    private static void chance(String mill, int law, int t, long above, long below) {
        Edges.stays(mill + " chance(0, " + law + ", " + t + ", 0)", above, world(mill), g -> g.chance(0, law, t, 0));
        Edges.stays(mill + " chance(0, " + law + ", " + t + ", 1)", below, world(mill), g -> g.chance(0, law, t, 1));
    }

    static void promise31TheLeastAndTheGreatestOdds() {
        chance("l1004;p001;", 0, 2, 1, 2);
        chance("l1004;p001;", 0, 20, 19, 20);
        chance("l3004;p001;", 0, 2, 1, 2);
        chance("l3004;p001;", 0, 20, 1, 20);
    }

    static void promise31NothingToTake() {
        chance("l3004;p000;", 0, 2, 1, 1);
        chance("l1004;p000;", 0, 20, 0, 1);
    }

    static void promise31CertainAndNever() {
        chance("l3004;p254;", 0, 20, 1, 1);
        chance("l1004;p254;", 0, 3, 0, 1);
    }

    static void promise31OfAllEight() {
        chance("l1004;p255;", 0, 20, 19, 20);
        // LAW 0 wants 7 not, which all but 7 give, and 7 has itself: all eight must be taken.
        String allMustGo = "l3870;l1107;l1117;l1127;l1137;l1147;l1157;l1167;p255;";
        chance(allMustGo, 0, 20, 1, 25600000000L);
        chance(allMustGo, 0, 2, 1, 256);
    }

    static void promise31TheTrayAsItIsTold() {
        chance("l5011;p003;", 0, 2, 0, 1);
        chance("l5011;p006;t02;", 0, 2, 1, 2);
    }

    static void promise31InLowestTerms() {
        chance("l2001;p003;", 0, 3, 8, 9);
        chance("l2001;p003;", 0, 2, 3, 4);
        chance("l2001;l1011;p003;", 1, 4, 3, 16);
    }

    static void promise31NobodyOrNoLaw() {
        for (int person : new int[] {-1, 3, MIN, MAX}) {
            Edges.refusedLong("chance(" + person + ", 0, 2, 0)", -1, Edges::some, g -> g.chance(person, 0, 2, 0));
        }
        for (int law : new int[] {-1, 6, 10, MIN, MAX}) {
            Edges.refusedLong("chance(0, " + law + ", 2, 0)", -1, Edges::some, g -> g.chance(0, law, 2, 0));
        }
    }

    static void promise31Below() {
        for (int t : new int[] {1, 0, -1, MIN}) Edges.refusedLong("chance(0, 0, " + t + ", 0)", -4, Edges::some, g -> g.chance(0, 0, t, 0));
    }

    static void promise31Above() {
        for (int t : new int[] {21, MAX}) Edges.refusedLong("chance(0, 0, " + t + ", 0)", -6, Edges::some, g -> g.chance(0, 0, t, 0));
    }

    static void promise31AnotherPart() {
        for (int part : new int[] {-1, 2, MIN, MAX}) {
            Edges.refusedLong("chance(0, 0, 2, " + part + ")", -2, Edges::some, g -> g.chance(0, 0, 2, part));
            Edges.refusedLong("chance(0, 0, 20, " + part + ")", -2, Edges::some, g -> g.chance(0, 0, 20, part));
        }
    }

    static void promise31InTheirOrder() {
        Edges.refusedLong("chance(3, 0, 1, 2)", -1, Edges::some, g -> g.chance(3, 0, 1, 2));
        Edges.refusedLong("chance(0, 6, 21, 2)", -1, Edges::some, g -> g.chance(0, 6, 21, 2));
        Edges.refusedLong("chance(0, 0, 1, 2)", -4, Edges::some, g -> g.chance(0, 0, 1, 2));
        Edges.refusedLong("chance(0, 0, 21, 2)", -6, Edges::some, g -> g.chance(0, 0, 21, 2));
        Check.due("as -6 is told", Edges.some().chance(0, 0, 21, 2), 4000000000000000006L);
    }

    // ---- 50 lots: "-4; -6 20; -2."; "(an int, wrapping)"; "z without its sign's bit, over 65536, cut" ----

    private static SearchedAtTheGate one(int pockets) {
        SearchedAtTheGate g = new SearchedAtTheGate();
        g.law(1, 0, 0);
        g.person(pockets);
        return g;
    }

    /** The same DRAWS by longs: 32 bits of z are kept, of which the sign's is left out of the DRAW. */
    private static int draw(int seed, int n) {
        long z = seed & 0xffffffffL;
        for (int i = 0; i < n; i++) z = (z * 1103515245L + 12345L) % 4294967296L;
        return (int) (z % 2147483648L / 65536 % 8);
    }

    static void promise50SeedsAtTheEdges() {
        // z becomes 12345 of 0, which is below 65536: a DRAW of 0.
        Check.due("of seed 0", draw(0, 1), 0);
        // 1103527590 is 16838 times 65536 and some more: 16838 modulo 8.
        Check.due("of seed 1", draw(1, 1), 6);
        // -1103502900 is 3191464396 without a sign, and 1043980748 without its bit: 15929 times 65536 and some more.
        Check.due("of seed -1", draw(-1, 1), 1);
        for (int seed : new int[] {0, 1, 2, 5, -1, -2, 65535, 65536, MAX, MAX - 1, MIN, MIN + 1, 1 << 30, -7, 1103515245}) {
            for (int thing = 0; thing < 8; thing++) {
                SearchedAtTheGate g = one(1 << thing);
                Check.due("lots(1, " + seed + ", 1) of " + thing, g.lots(1, seed, 1), draw(seed, 1) == thing ? 1 : 0);
            }
        }
    }

    static void promise50TheLeastAndTheMostMornings() {
        for (int seed : new int[] {0, 5, MIN, MAX}) {
            int taken = 0;
            int done = 0;
            for (int n = 1; n <= 20; n++) {
                if (draw(seed, n) < 4) taken++;
                if (draw(seed, n) != 0) done++;
                int many = n;
                Edges.stays("lots(" + n + ", " + seed + ", 1)", taken, () -> one(15), g -> g.lots(many, seed, 1));
                Edges.stays("lots(" + n + ", " + seed + ", 0)", done, () -> one(15), g -> g.lots(many, seed, 0));
            }
        }
    }

    static void promise50EachOfPeopleByNumbers() {
        for (int seed : new int[] {0, 5, MIN, MAX}) {
            for (int who = 0; who < 6; who++) {
                SearchedAtTheGate g = new SearchedAtTheGate();
                for (int person = 0; person < 6; person++) g.person(person == who ? 1 << draw(seed, who + 1) : 0);
                Check.due("the DRAW of " + who, g.lots(1, seed, 1), 1);
                Check.due("on the next morning", g.lots(2, seed, 1), draw(seed, who + 7) == draw(seed, who + 1) ? 2 : 1);
            }
        }
    }

    static void promise50WithoutPeople() {
        Edges.stays("lots(1, 0, 0)", 0, Edges::bare, g -> g.lots(1, 0, 0));
        Edges.stays("lots(20, -1, 1)", 0, Edges::bare, g -> g.lots(20, -1, 1));
    }

    static void promise50IfHeHasIt() {
        Check.due("nobody has anything", Check.gate("l3001;p000;p000;").lots(20, 1, 1), 0);
        Check.due("so all do LAW 0", Check.gate("l3001;p000;p000;").lots(20, 1, 0), 40);
        Check.due("all have all", Check.gate(Edges.SIX).lots(20, 1, 1), 120);
        Check.due("the most LAWS done", Check.gate("l3001;".repeat(10) + "p000;".repeat(6)).lots(20, 1, 0), 1200);
    }

    static void promise50EachMorningAsTheyAreNow() {
        SearchedAtTheGate g = Check.gate("p255;");
        Check.due("a THING again and again", g.lots(20, 0, 1), 20);
        Check.due("pockets(0)", g.pockets(0), 255);
        Check.due("the DAY in mind leaves them so", Check.gate("l0001;p001;").lots(20, 0, 0), 20 - drawsOf(0, 0, 20));
    }

    private static int drawsOf(int thing, int seed, int mornings) {
        int many = 0;
        for (int n = 1; n <= mornings; n++) {
            if (draw(seed, n) == thing) many++;
        }
        return many;
    }

    static void promise50TheTrayAsItIsTold() {
        Check.due("what is taken in mind lies not there", Check.gate("l5011;p255;").lots(20, 3, 0), 0);
    }

    static void promise50Refused() {
        for (int n : new int[] {0, -1, MIN}) Edges.refused("lots(" + n + ", 0, 0)", -4, Edges::some, g -> g.lots(n, 0, 0));
        for (int n : new int[] {21, MAX}) Edges.refused("lots(" + n + ", 0, 0)", -6, Edges::some, g -> g.lots(n, 0, 0));
        for (int what : new int[] {-1, 2, MIN, MAX}) Edges.refused("lots(20, 0, " + what + ")", -2, Edges::some, g -> g.lots(20, 0, what));
        Edges.refused("lots(0, 0, 2)", -4, Edges::some, g -> g.lots(0, 0, 2));
        Edges.refused("lots(21, 0, 2)", -6, Edges::some, g -> g.lots(21, 0, 2));
    }

    static void promise50NoSeedIsRefused() {
        for (int seed : new int[] {MIN, -1, 0, MAX}) Edges.stays("lots(1, " + seed + ", 1)", 0, Edges::bare, g -> g.lots(1, seed, 1));
    }
}
