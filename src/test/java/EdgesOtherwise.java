import java.util.function.Supplier;

/** Edges of promises 39 to 46: trades, the earliest HOUR, what is safe, what a THING adds, ways, DAYS on, gifts. */
final class EdgesOtherwise {
    private static final int MIN = Edges.MIN;
    private static final int MAX = Edges.MAX;

    private EdgesOtherwise() {
    }

    private static Supplier<SearchedAtTheGate> world(String mill) {
        return () -> Check.gate(mill);
    }

    // ---- 39 trade: "how many (what 0), the THINGS (1). -1 either (one twice); -2."; "of several the least (88 none)" ----

    private static void trade(String mill, int many, int things) {
        Edges.stays(mill + " trade(0, 1, 0)", many, world(mill), g -> g.trade(0, 1, 0));
        Edges.stays(mill + " trade(0, 1, 1)", things, world(mill), g -> g.trade(0, 1, 1));
    }

    static void promise39NothingToChange() {
        trade("p000;p000;", 0, 88);
        trade(Edges.EIGHT + "p000;p255;", 8, 88);
        trade(Edges.EIGHT + "p255;p000;", 8, 88);
    }

    static void promise39NoneIsBetter() {
        trade("p255;p255;", 0, 88);
        trade(Edges.EIGHT + "p255;p255;", 16, 88);
        trade(Edges.EIGHT + "p001;p002;", 2, 88);
        trade("l1001;l1012;p033;p032;", 2, 88);
    }

    static void promise39OneIsBetter() {
        trade("l1001;l1012;p003;p032;", 3, 5);
        trade("l1001;l1012;p032;p003;", 3, 50);
    }

    static void promise39OfSeveralTheLeast() {
        trade("l3023;p012;p012;", 1, 23);
        trade("l1001;l1012;p003;p096;", 3, 5);
        trade("l1001;l1012;p096;p003;", 3, 50);
    }

    static void promise39TheGreatestThings() {
        trade("l3074;p128;p192;", 1, 76);
        trade("l3074;p192;p128;", 1, 67);
        trade("l3074;p128;p128;", 0, 88);
    }

    static void promise39OneTwiceAndNobody() {
        for (int person = 0; person < 3; person++) {
            int twice = person;
            Edges.refused("trade(" + twice + ", " + twice + ", 0)", -1, Edges::some, g -> g.trade(twice, twice, 0));
        }
        for (int person : new int[] {-1, 3, MIN, MAX}) {
            Edges.refused("trade(" + person + ", 0, 0)", -1, Edges::some, g -> g.trade(person, 0, 0));
            Edges.refused("trade(0, " + person + ", 0)", -1, Edges::some, g -> g.trade(0, person, 0));
            Edges.refused("trade(" + person + ", " + person + ", 0)", -1, Edges::some, g -> g.trade(person, person, 0));
        }
    }

    static void promise39AnotherWhat() {
        for (int what : new int[] {-1, 2, MIN, MAX}) Edges.refused("trade(0, 1, " + what + ")", -2, Edges::some, g -> g.trade(0, 1, what));
        Edges.refused("trade(0, 0, 2)", -1, Edges::some, g -> g.trade(0, 0, 2));
        Edges.refused("trade(0, 3, 2)", -1, Edges::some, g -> g.trade(0, 3, 2));
    }

    // ---- 40 earliest: "the HOUR (what 0; -9), POCKETS (1; -9). -1; -2."; "the least such POCKETS" ----

    private static void earliest(String mill, int law, int hour, int pockets) {
        Edges.stays(mill + " earliest(" + law + ", 0)", hour, world(mill), g -> g.earliest(law, 0));
        Edges.stays(mill + " earliest(" + law + ", 1)", pockets, world(mill), g -> g.earliest(law, 1));
    }

    static void promise40NoPocketsDoIt() {
        earliest("l5001;", 0, -9, -9);
        earliest("l1900;l1900;l1900;l1900;", 3, -9, -9);
    }

    static void promise40TheFirstAndTheLastHour() {
        earliest("l1000;", 0, 0, 1);
        earliest("l1900;l1900;l1900;", 2, 11, 1);
        earliest("l4900;", 0, 10, 1);
    }

    static void promise40TheLeastAndTheGreatestPockets() {
        earliest("l3001;", 0, 0, 0);
        earliest("l1070;", 0, 0, 128);
        // Each of seven LAWS ahead is done by who has not a THING of its own, and LAW 7 in HOUR 0 by who has all.
        earliest("l3000;l3011;l3022;l3033;l3044;l3055;l3066;l1077;", 7, 0, 255);
        earliest("l1977;l3900;l3911;l3922;l3933;l3944;l3955;l3966;l4977;", 8, 10, 255);
    }

    static void promise40EarlierAheadOfLess() {
        earliest("l3104;l1014;", 0, 1, 0);
        earliest("l3010;l1002;", 1, 0, 3);
    }

    static void promise40Refused() {
        for (int law : new int[] {-1, 6, 10, MIN, MAX}) {
            Edges.refused("earliest(" + law + ", 0)", -1, Edges::some, g -> g.earliest(law, 0));
            Edges.refused("earliest(" + law + ", 2)", -1, Edges::some, g -> g.earliest(law, 2));
        }
        for (int what : new int[] {-1, 2, MIN, MAX}) Edges.refused("earliest(0, " + what + ")", -2, Edges::some, g -> g.earliest(0, what));
    }

    // ---- 41 safe: "SAFE (bits). -1." ----

    private static void safe(String mill, int due) {
        Edges.stays(mill + " safe(0)", due, world(mill), g -> g.safe(0));
    }

    static void promise41EmptyPockets() {
        safe("l3000;p000;", 0);
        safe("p000;", 0);
    }

    static void promise41AllOrNone() {
        safe("p255;", 255);
        safe(Edges.EIGHT + "p255;", 0);
        safe("l3900;p254;", 254);
    }

    static void promise41TheFirstAndTheLastThing() {
        safe("l1000;p129;", 128);
        safe("l1070;p129;", 1);
    }

    static void promise41EachAlone() {
        // Either of two is enough: each alone may go.
        safe("l2901;p003;", 3);
        safe("l1002;l1012;l1020;p003;", 0);
    }

    static void promise41TheSameHours() {
        safe("l1014;l1121;p006;", 0);
        safe("l3004;p001;", 0);
    }

    static void promise41TheTrayAsItIsTold() {
        safe("l5011;p003;", 3);
    }

    static void promise41Refused() {
        for (int person : new int[] {-1, 3, MIN, MAX}) Edges.refused("safe(" + person + ")", -1, Edges::some, g -> g.safe(person));
        Edges.refused("safe(0) of nobody", -1, Edges::bare, g -> g.safe(0));
        Edges.refused("safe(6) of six", -1, Edges::full, g -> g.safe(6));
    }

    // ---- 42 adds: "part 0 above, 1 below the line. -1 either; -2; -3 he has it not."; "may be below 0: above the line" ----

    private static void adds(String mill, int thing, long above, long below) {
        Edges.stays(mill + " adds(0, " + thing + ", 0)", above, world(mill), g -> g.adds(0, thing, 0));
        Edges.stays(mill + " adds(0, " + thing + ", 1)", below, world(mill), g -> g.adds(0, thing, 1));
    }

    static void promise42OneThingAlone() {
        adds("l1004;p001;", 0, 1, 1);
        adds("l1074;p128;", 7, 1, 1);
    }

    static void promise42Nothing() {
        adds("p001;", 0, 0, 1);
        adds("l1004;p003;", 1, 0, 1);
        adds("p255;", 7, 0, 1);
    }

    static void promise42BelowNothing() {
        adds("l3004;p001;", 0, -1, 1);
        adds("l1002;l1012;l3324;l3325;l3326;p003;", 0, -1, 2);
        adds("l3004;".repeat(10) + "p001;", 0, -10, 1);
    }

    static void promise42TheMost() {
        adds(Edges.TEN + "p001;", 0, 10, 1);
        adds(Edges.TEN + "p255;", 0, 10, 1);
    }

    static void promise42InLowestTerms() {
        adds("l2001;p003;", 0, 1, 2);
        adds("l1003;l1013;l1023;l1034;p007;", 0, 4, 3);
    }

    static void promise42OrdersOfAllEight() {
        // Whichever of eight comes first does LAW 7; each but 7 does a LAW of its own, too.
        String mill = "l1007;l1017;l1027;l1037;l1047;l1057;l1067;l1977;p255;";
        adds(mill, 7, 1, 8);
        adds(mill, 0, 9, 8);
    }

    static void promise42NobodyOrNoThing() {
        for (int person : new int[] {-1, 3, MIN, MAX}) {
            Edges.refusedLong("adds(" + person + ", 0, 0)", -1, Edges::some, g -> g.adds(person, 0, 0));
        }
        for (int thing : new int[] {-1, 8, 32, MIN, MAX}) {
            Edges.refusedLong("adds(0, " + thing + ", 0)", -1, Edges::some, g -> g.adds(0, thing, 0));
        }
    }

    static void promise42AnotherPart() {
        for (int part : new int[] {-1, 2, MIN, MAX}) {
            Edges.refusedLong("adds(0, 0, " + part + ")", -2, world("l1004;p001;"), g -> g.adds(0, 0, part));
        }
    }

    static void promise42HeHasItNot() {
        for (int thing = 1; thing < 8; thing++) {
            int not = thing;
            Edges.refusedLong("adds(0, " + not + ", 0)", -3, world("l1004;p001;"), g -> g.adds(0, not, 0));
            Edges.refusedLong("adds(0, " + not + ", 1)", -3, world("l1004;p001;"), g -> g.adds(0, not, 1));
        }
        Edges.refusedLong("adds(0, 0, 0) of one with nothing", -3, world("l1004;p000;"), g -> g.adds(0, 0, 0));
    }

    static void promise42InTheirOrder() {
        Edges.refusedLong("adds(1, 1, 2)", -1, world("l1004;p001;"), g -> g.adds(1, 1, 2));
        Edges.refusedLong("adds(0, 8, 2)", -1, world("l1004;p001;"), g -> g.adds(0, 8, 2));
        Edges.refusedLong("adds(0, 1, 2)", -2, world("l1004;p001;"), g -> g.adds(0, 1, 2));
        Check.due("as -3 is told", Check.gate("p001;").adds(0, 1, 0), 4000000000000000003L);
    }

    // ---- 43 ways: "WAYS (what 0), FEWEST (1, bits; -9). -1; -2."; "(0 .. 255)"; "of several the least" ----

    private static void ways(String mill, int law, int many, int fewest) {
        Edges.stays(mill + " ways(" + law + ", 0)", many, world(mill), g -> g.ways(law, 0));
        Edges.stays(mill + " ways(" + law + ", 1)", fewest, world(mill), g -> g.ways(law, 1));
    }

    static void promise43NoneAndAll() {
        ways("l5001;", 0, 0, -9);
        ways("l3000;l3010;l1000;", 2, 256, 0);
    }

    static void promise43OneAlone() {
        // LAW 0 wants 7 not, which all but 7 give, and 7 has itself.
        ways("l3970;l1007;l1017;l1027;l1037;l1047;l1057;l1067;", 0, 1, 0);
        // TEMPER at 9 is done in HOUR 10 alone; each THING that is not had leaves that HOUR to a LAW ahead of it.
        ways("l1977;l3900;l3911;l3922;l3933;l3944;l3955;l3966;l4977;", 8, 1, 255);
    }

    static void promise43TheFirstAndTheLastThing() {
        ways("l1000;", 0, 128, 1);
        ways("l1070;", 0, 128, 128);
    }

    static void promise43OfSeveralTheLeast() {
        ways("l2070;", 0, 192, 1);
        ways("l2076;", 0, 192, 64);
    }

    static void promise43TheFewestAheadOfTheLeast() {
        ways("l3004;l3014;l3243;l1023;l1437;", 4, 200, 4);
    }

    static void promise43Refused() {
        for (int law : new int[] {-1, 6, 10, MIN, MAX}) {
            Edges.refused("ways(" + law + ", 0)", -1, Edges::some, g -> g.ways(law, 0));
            Edges.refused("ways(" + law + ", 2)", -1, Edges::some, g -> g.ways(law, 2));
        }
        for (int what : new int[] {-1, 2, MIN, MAX}) Edges.refused("ways(0, " + what + ")", -2, Edges::some, g -> g.ways(0, what));
    }

    // ---- 44 behind: "-1; -4; -6 60."; "(0 .. 60)" ----

    static void promise44NoDayAndTheMostDays() {
        String mill = "l2001;p001;";
        int[] days = {0, 1, 2, 59, 60};
        int[] due = {1, 2, 1, 2, 1};
        for (int i = 0; i < days.length; i++) {
            int n = days[i];
            Edges.stays("behind(0, " + n + ")", due[i], world(mill), g -> g.behind(0, n));
        }
    }

    static void promise44AsDaysGoBy() {
        SearchedAtTheGate g = Edges.full();
        int[] then = new int[61];
        for (int n = 0; n <= 60; n++) then[n] = g.behind(3, n);
        for (int n = 0; n <= 60; n++) {
            Check.due("pockets(3) behind DAY " + n, g.pockets(3), then[n]);
            g.day();
        }
    }

    static void promise44Refused() {
        for (int person : new int[] {-1, 3, MIN, MAX}) {
            Edges.refused("behind(" + person + ", 0)", -1, Edges::some, g -> g.behind(person, 0));
            Edges.refused("behind(" + person + ", -1)", -1, Edges::some, g -> g.behind(person, -1));
            Edges.refused("behind(" + person + ", 61)", -1, Edges::some, g -> g.behind(person, 61));
        }
        for (int n : new int[] {-1, MIN}) Edges.refused("behind(0, " + n + ")", -4, Edges::some, g -> g.behind(0, n));
        for (int n : new int[] {61, MAX}) Edges.refused("behind(0, " + n + ")", -6, Edges::some, g -> g.behind(0, n));
    }

    // ---- 45 give: "GIVE; -9. -1 either (one twice)."; "most, more than now; of several the least" ----

    private static void give(String mill, int due) {
        Edges.stays(mill + " give(0, 1)", due, world(mill), g -> g.give(0, 1));
    }

    static void promise45NothingToGive() {
        give(Edges.EIGHT + "p000;p000;", -9);
        give(Edges.EIGHT + "p000;p255;", -9);
    }

    static void promise45NoMoreThanNow() {
        give("p255;p000;", -9);
        give(Edges.EIGHT + "p255;p000;", -9);
        give(Edges.EIGHT + "p255;p255;", -9);
    }

    static void promise45TheFirstAndTheLastThing() {
        give("l3070;p128;p128;", 7);
        give("l3007;p129;p129;", 0);
    }

    static void promise45OfSeveralTheLeast() {
        give("l3004;l3014;p003;p003;", 0);
        give("l3064;l3074;p192;p192;", 6);
    }

    static void promise45MostAheadOfTheLeast() {
        give("l3004;l3914;l3915;p003;p003;", 1);
    }

    static void promise45TheOtherHasItAlready() {
        // He does LAW 1 who has not 1: the other keeps it, so that 0, the least, is as good.
        give("l2902;l3014;p007;p002;", 0);
        give("l3004;p128;p128;", -9);
    }

    static void promise45OneTwiceAndNobody() {
        for (int person = 0; person < 3; person++) {
            int twice = person;
            Edges.refused("give(" + twice + ", " + twice + ")", -1, Edges::some, g -> g.give(twice, twice));
        }
        for (int person : new int[] {-1, 3, MIN, MAX}) {
            Edges.refused("give(" + person + ", 0)", -1, Edges::some, g -> g.give(person, 0));
            Edges.refused("give(0, " + person + ")", -1, Edges::some, g -> g.give(0, person));
            Edges.refused("give(" + person + ", " + person + ")", -1, Edges::some, g -> g.give(person, person));
        }
    }

    // ---- 46 ever: "-1; -4 below 1; -6 60."; "the next n (1 .. 60)" ----

    static void promise46TheFirstDayAndTheMostDays() {
        // LAW 0 wants what LAW 1 gives in the last HOUR in which it could.
        String mill = "l4923;l4912;p002;p000;";
        Edges.stays("ever(0, 1)", 2, world(mill), g -> g.ever(0, 1));
        Edges.stays("ever(0, 2)", 3, world(mill), g -> g.ever(0, 2));
        Edges.stays("ever(0, 60)", 3, world(mill), g -> g.ever(0, 60));
        Edges.stays("ever(1, 60)", 0, world(mill), g -> g.ever(1, 60));
    }

    static void promise46AllTen() {
        Edges.stays("ever(0, 1)", 1023, world(Edges.TEN + "p001;"), g -> g.ever(0, 1));
        Edges.stays("ever(0, 60)", 1023, world(Edges.TEN + "p001;"), g -> g.ever(0, 60));
    }

    static void promise46NothingEver() {
        Edges.stays("ever(0, 60)", 0, world("p255;"), g -> g.ever(0, 60));
    }

    static void promise46Refused() {
        for (int person : new int[] {-1, 3, MIN, MAX}) {
            Edges.refused("ever(" + person + ", 1)", -1, Edges::some, g -> g.ever(person, 1));
            Edges.refused("ever(" + person + ", 0)", -1, Edges::some, g -> g.ever(person, 0));
            Edges.refused("ever(" + person + ", 61)", -1, Edges::some, g -> g.ever(person, 61));
        }
        for (int n : new int[] {0, -1, MIN}) Edges.refused("ever(0, " + n + ")", -4, Edges::some, g -> g.ever(0, n));
        for (int n : new int[] {61, MAX}) Edges.refused("ever(0, " + n + ")", -6, Edges::some, g -> g.ever(0, n));
    }
}
