/** Edges of promises 14 to 17: the HOURS of a DAY, the KINDS of LAWS, what is done, lost and gained, and instead. */
final class EdgesOfADay {
    private static final int MIN = Edges.MIN;
    private static final int MAX = Edges.MAX;
    /** Of each KIND a LAW that wants THING 0 and gives 1; who begins with these POCKETS can do it at once. */
    private static final int[] STARTS = {1, 1, 1, 0, 1, 1};

    private EdgesOfADay() {
    }

    private static SearchedAtTheGate oneLaw() {
        return Check.gate("l0001;p001;p000;");
    }

    /** What the first of PEOPLE does: the LAW in each HOUR from 0 on, and none in those that are not told. */
    private static void does(String mill, int... laws) {
        SearchedAtTheGate g = Check.gate(mill);
        for (int hour = 0; hour < 12; hour++) {
            Check.due(mill + " at(0, " + hour + ", 0)", g.at(0, hour, 0), hour < laws.length ? laws[hour] : -9);
        }
    }

    /** The POCKETS that the first of PEOPLE has behind his DAY. */
    private static void leaves(String mill, int pockets) {
        Check.due(mill + " at(0, 11, 1)", Check.gate(mill).at(0, 11, 1), pockets);
    }

    // ---- 14 at: "In an HOUR: the LAW (what 0; -9), POCKETS behind it (1). -1 either; -2." ----

    static void promise14TheFirstAndTheLastHour() {
        Edges.stays("at(0, 0, 0)", 0, EdgesOfADay::oneLaw, g -> g.at(0, 0, 0));
        Edges.stays("at(0, 0, 1)", 2, EdgesOfADay::oneLaw, g -> g.at(0, 0, 1));
        Edges.stays("at(0, 11, 0)", -9, EdgesOfADay::oneLaw, g -> g.at(0, 11, 0));
        Edges.stays("at(0, 11, 1)", 2, EdgesOfADay::oneLaw, g -> g.at(0, 11, 1));
    }

    static void promise14NoSuchHour() {
        for (int hour : new int[] {-1, 12, MIN, MAX}) {
            Edges.refused("at(0, " + hour + ", 0)", -1, EdgesOfADay::oneLaw, g -> g.at(0, hour, 0));
        }
    }

    static void promise14Nobody() {
        for (int person : new int[] {-1, 2, MIN, MAX}) {
            Edges.refused("at(" + person + ", 0, 0)", -1, EdgesOfADay::oneLaw, g -> g.at(person, 0, 0));
        }
        Edges.refused("at(0, 0, 0) of nobody", -1, Edges::bare, g -> g.at(0, 0, 0));
    }

    static void promise14AnotherWhat() {
        for (int what : new int[] {-1, 2, MIN, MAX}) {
            Edges.refused("at(0, 0, " + what + ")", -2, EdgesOfADay::oneLaw, g -> g.at(0, 0, what));
        }
    }

    static void promise14EitherAheadOfAnotherWhat() {
        Edges.refused("at(2, 0, 2)", -1, EdgesOfADay::oneLaw, g -> g.at(2, 0, 2));
        Edges.refused("at(0, 12, 2)", -1, EdgesOfADay::oneLaw, g -> g.at(0, 12, 2));
    }

    static void promise14NothingHolds() {
        does("p255;");
        does("l0001;p000;");
        SearchedAtTheGate g = oneLaw();
        for (int hour = 0; hour < 12; hour++) {
            Check.due("at(1, " + hour + ", 0)", g.at(1, hour, 0), -9);
            Check.due("at(1, " + hour + ", 1)", g.at(1, hour, 1), 0);
        }
    }

    static void promise14PocketsBehindAnHourOfNothing() {
        SearchedAtTheGate g = Check.gate("l0201;p005;");
        int[] due = {5, 5, 6, 6};
        for (int hour = 0; hour < 4; hour++) Check.due("at(0, " + hour + ", 1)", g.at(0, hour, 1), due[hour]);
    }

    // ---- "HOUR is FIGURE or later"; "TEMPER as a CHAIN, if HOUR is even" ----

    static void promise14HourIsFigureOrLater() {
        for (int kind = 0; kind <= 5; kind++) {
            for (int figure = 0; figure <= 9; figure++) {
                int first = kind == 4 ? figure + figure % 2 : figure;
                String mill = "l" + kind + figure + "01;p128;p00" + STARTS[kind] + ";t07;";
                Check.due(mill + " when(1, 0)", Check.gate(mill).when(1, 0), first);
            }
        }
    }

    static void promise14LaterThanFigure() {
        does("l0301;l3020;p002;", 1, -9, -9, 0);
        does("l0101;l3520;p002;", -9, -9, -9, -9, -9, 1, 0);
    }

    static void promise14TemperInEvenHoursAlone() {
        does("l1001;l4012;p001;", 0, -9, 1);
        does("l1101;l4012;p001;", -9, 0, 1);
        does("l4901;p001;", -9, -9, -9, -9, -9, -9, -9, -9, -9, -9, 0);
    }

    // ---- "the first LAW (by numbers) that he has not done that DAY and that HOLDS is done (one at most)" ----

    static void promise14TheFirstByNumbers() {
        does("l1001;l1002;p001;", 0, 1);
        does("l1101;l1002;p001;", 1, 0);
    }

    static void promise14EachOnceADay() {
        does("l1001;p001;", 0);
        does("l2001;p001;", 0);
        SearchedAtTheGate g = Check.gate("l1001;p001;");
        g.day();
        Check.due("the next DAY again", g.when(0, 0), 0);
    }

    static void promise14AllTenInTenHours() {
        does(Edges.TEN + "p001;", 0, 1, 2, 3, 4, 5, 6, 7, 8, 9);
    }

    static void promise14TheLastHourIsTheLast() {
        does("l1900;".repeat(4) + "p001;", -9, -9, -9, -9, -9, -9, -9, -9, -9, 0, 1, 2);
        does("l4900;l4800;l4700;p001;", -9, -9, -9, -9, -9, -9, -9, -9, 1, -9, 0);
    }

    // ---- LAW ----

    static void promise14LawWantedIsGoneThenHeHasGiven() {
        leaves("l0001;p001;", 2);
        leaves("l0001;p003;", 2);
        leaves("l0070;p129;", 1);
        does("l0001;p002;");
    }

    static void promise14LawWantedAndGivenTheSame() {
        leaves("l0033;p008;", 8);
        does("l0033;p008;", 0);
        does("l0033;p247;");
    }

    // ---- CHAIN ----

    static void promise14ChainWantedStays() {
        leaves("l1001;p001;", 3);
        leaves("l1001;p003;", 3);
        does("l1001;p003;", 0);
        does("l1001;p254;");
    }

    // ---- EITHER ----

    static void promise14EitherHadHeBoth() {
        leaves("l2001;p007;", 5);
    }

    static void promise14EitherHadHeOneAlone() {
        leaves("l2001;p001;", 2);
        leaves("l2001;p002;", 1);
        leaves("l2070;p132;", 5);
        leaves("l2070;p005;", 132);
    }

    static void promise14EitherHadHeNone() {
        does("l2001;p252;");
        does("l2001;p000;");
    }

    static void promise14EitherOfTheSame() {
        leaves("l2022;p007;", 3);
        does("l2022;p007;", 0);
        does("l2022;p251;");
    }

    // ---- WITHOUT ----

    static void promise14WithoutHeHasGiven() {
        leaves("l3001;p000;", 2);
        leaves("l3001;p002;", 2);
        does("l3001;p002;", 0);
        does("l3001;p001;");
        leaves("l3000;p000;", 1);
    }

    // ---- TEMPER: "THING FIGURE is gone (of 8, 9 none)" ----

    static void promise14TemperThingFigureIsGone() {
        for (int figure = 0; figure <= 7; figure++) {
            int wanted = (figure + 1) % 8;
            int given = (figure + 2) % 8;
            leaves("l4" + figure + wanted + given + ";p255;", 255 - (1 << figure));
        }
    }

    static void promise14TemperOf8And9None() {
        leaves("l4801;p255;", 255);
        leaves("l4901;p255;", 255);
        leaves("l4801;p001;", 3);
        leaves("l4901;p001;", 3);
    }

    static void promise14TemperFigureIsWantedOrGiven() {
        leaves("l4001;p001;", 2);
        leaves("l4101;p001;", 1);
        leaves("l4000;p001;", 0);
        does("l4001;p001;", 0);
    }

    // ---- DUST: "if THE TRAY (as it is told) is not empty"; "all that is on THE TRAY he has, too" ----

    static void promise14DustWithAnEmptyTray() {
        does("l5001;p003;");
        does("l5001;p003;t00;x;");
        does("l5001;p003;t00;b00;");
    }

    static void promise14DustWithOneThing() {
        does("l5001;p003;t00;", 0);
        does("l5001;p131;t07;", 0);
        leaves("l5001;p131;t07;", 131);
    }

    static void promise14DustWithAFullTray() {
        SearchedAtTheGate g = Check.gate("l5001;p255;p002;t00;t01;t02;t03;t04;t05;t06;t07;");
        Check.due("all that is there", g.at(1, 11, 1), 255);
        Check.due("THE TRAY stays", g.tray(0), 255);
        Check.due("who has neither", g.at(0, 0, 0), -9);
    }

    static void promise14DustAsAnEither() {
        does("l5001;p005;t02;", 0);
        does("l5001;p006;t02;", 0);
        does("l5001;p007;t02;", 0);
        does("l5001;p012;t02;");
        leaves("l5001;p007;t02;", 7);
    }

    static void promise14TheTrayAsItIsTold() {
        SearchedAtTheGate g = Check.gate("l5011;p003;");
        Check.due("what is taken in mind lies not there", g.instead(0, 1, 0), 0);
        g.takes(0, 0);
        Check.due("what is taken lies there", g.done(0, 0), 1);
        g.brings(0, 0);
        Check.due("and no more", g.done(0, 0), 0);
    }

    // ---- 15 done: "LAWS done (what 0, bits), how many (1), LOST (2, bits), GAINED (3, bits). -1; -2." ----

    private static void done(String mill, int... due) {
        for (int what = 0; what < 4; what++) {
            int about = what;
            Edges.stays(mill + " done(0, " + what + ")", due[what], () -> Check.gate(mill), g -> g.done(0, about));
        }
    }

    static void promise15NothingDone() {
        done("p255;", 0, 0, 0, 0);
        done("l0001;p000;", 0, 0, 0, 0);
    }

    static void promise15AllTen() {
        done(Edges.TEN + "p001;", 1023, 10, 0, 0);
        done("l0000;l0000;l0000;l0000;l0000;l0000;l0000;l0000;l0000;l3001;p000;", 512, 1, 0, 2);
    }

    static void promise15AllLost() {
        done("l2000;l2011;l2022;l2033;l2044;l2055;l2066;l2077;p255;", 255, 8, 255, 0);
    }

    static void promise15AllGained() {
        done("l3000;l3011;l3022;l3033;l3044;l3055;l3066;l3077;p000;", 255, 8, 0, 255);
    }

    static void promise15LostAndCameBack() {
        done("l0001;l0010;p001;", 3, 2, 0, 0);
    }

    static void promise15LostAndGained() {
        done("l0007;p001;", 1, 1, 1, 128);
        done("l0070;p128;", 1, 1, 128, 1);
    }

    static void promise15Refused() {
        for (int person : new int[] {-1, 2, MIN, MAX}) {
            Edges.refused("done(" + person + ", 0)", -1, EdgesOfADay::oneLaw, g -> g.done(person, 0));
            Edges.refused("done(" + person + ", 4)", -1, EdgesOfADay::oneLaw, g -> g.done(person, 4));
        }
        for (int what : new int[] {-1, 4, MIN, MAX}) {
            Edges.refused("done(0, " + what + ")", -2, EdgesOfADay::oneLaw, g -> g.done(0, what));
        }
    }

    // ---- 16 when: "The HOUR in which a LAW is done; -9. -1 either." ----

    static void promise16TheFirstAndTheLastHour() {
        Edges.stays("when(0, 0)", 0, EdgesOfADay::oneLaw, g -> g.when(0, 0));
        SearchedAtTheGate g = Check.gate("l1900;".repeat(10) + "p001;");
        Check.due("HOUR 9", g.when(0, 0), 9);
        Check.due("HOUR 11", g.when(0, 2), 11);
        Check.due("no HOUR more", g.when(0, 3), -9);
        Check.due("nor for the last", g.when(0, 9), -9);
    }

    static void promise16NotDone() {
        Edges.stays("when(1, 0)", -9, EdgesOfADay::oneLaw, g -> g.when(1, 0));
    }

    static void promise16Refused() {
        for (int person : new int[] {-1, 2, MIN, MAX}) {
            Edges.refused("when(" + person + ", 0)", -1, EdgesOfADay::oneLaw, g -> g.when(person, 0));
        }
        for (int law : new int[] {-1, 1, 10, MIN, MAX}) {
            Edges.refused("when(0, " + law + ")", -1, EdgesOfADay::oneLaw, g -> g.when(0, law));
        }
        Edges.refused("when(0, 10) of ten", -1, Edges::full, g -> g.when(0, 10));
        Edges.refused("when(6, 9) of six", -1, Edges::full, g -> g.when(6, 9));
    }

    // ---- 17 instead: "LAWS (what 0, bits), those not done else (1, bits). -1; -4; -6 255; -2."; "what of it he has" ----

    private static SearchedAtTheGate withAndWithout() {
        return Check.gate("l1004;l3015;l3026;p003;p000;");
    }

    static void promise17NothingTaken() {
        Edges.stays("instead(0, 0, 0)", 5, EdgesOfADay::withAndWithout, g -> g.instead(0, 0, 0));
        Edges.stays("instead(0, 0, 1)", 0, EdgesOfADay::withAndWithout, g -> g.instead(0, 0, 1));
    }

    static void promise17AllTaken() {
        Edges.stays("instead(0, 255, 0)", 6, EdgesOfADay::withAndWithout, g -> g.instead(0, 255, 0));
        Edges.stays("instead(0, 255, 1)", 2, EdgesOfADay::withAndWithout, g -> g.instead(0, 255, 1));
        Check.due("as with empty POCKETS", withAndWithout().empty(0), 6);
        Edges.stays("instead(1, 255, 1) of one with nothing", 0, EdgesOfADay::withAndWithout, g -> g.instead(1, 255, 1));
    }

    static void promise17WhatOfItHeHas() {
        Edges.stays("instead(0, 252, 0)", 5, EdgesOfADay::withAndWithout, g -> g.instead(0, 252, 0));
        Edges.stays("instead(0, 254, 0)", 7, EdgesOfADay::withAndWithout, g -> g.instead(0, 254, 0));
        Edges.stays("instead(0, 254, 1)", 2, EdgesOfADay::withAndWithout, g -> g.instead(0, 254, 1));
        Check.due("LAW 7 of THING 7", Check.gate(Edges.EIGHT + "p255;").instead(0, 128, 0), 127);
    }

    static void promise17Refused() {
        for (int person : new int[] {-1, 2, MIN, MAX}) {
            Edges.refused("instead(" + person + ", 0, 0)", -1, EdgesOfADay::withAndWithout, g -> g.instead(person, 0, 0));
        }
        for (int set : new int[] {-1, MIN}) {
            Edges.refused("instead(0, " + set + ", 0)", -4, EdgesOfADay::withAndWithout, g -> g.instead(0, set, 0));
        }
        for (int set : new int[] {256, MAX}) {
            Edges.refused("instead(0, " + set + ", 0)", -6, EdgesOfADay::withAndWithout, g -> g.instead(0, set, 0));
        }
        for (int what : new int[] {-1, 2, MIN, MAX}) {
            Edges.refused("instead(0, 0, " + what + ")", -2, EdgesOfADay::withAndWithout, g -> g.instead(0, 0, what));
        }
    }

    static void promise17InTheirOrder() {
        Edges.refused("instead(2, -1, 2)", -1, EdgesOfADay::withAndWithout, g -> g.instead(2, -1, 2));
        Edges.refused("instead(2, 256, 2)", -1, EdgesOfADay::withAndWithout, g -> g.instead(2, 256, 2));
        Edges.refused("instead(0, -1, 2)", -4, EdgesOfADay::withAndWithout, g -> g.instead(0, -1, 2));
        Edges.refused("instead(0, 256, 2)", -6, EdgesOfADay::withAndWithout, g -> g.instead(0, 256, 2));
    }
}
