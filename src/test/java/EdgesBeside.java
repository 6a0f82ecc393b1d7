import java.util.function.Supplier;

/** Edges of promises 32 to 38: idle HOURS, LAWS that nobody or all do, who are alike, what is dropped, keys, needed. */
final class EdgesBeside {
    private static final int MIN = Edges.MIN;
    private static final int MAX = Edges.MAX;
    /** Three LAWS, each by what the one ahead gives: 0, 1, 2. */
    private static final String CHAIN_OF_THREE = "l1001;l1012;l1023;";

    private EdgesBeside() {
    }

    private static Supplier<SearchedAtTheGate> world(String mill) {
        return () -> Check.gate(mill);
    }

    // ---- 32 idle: "how many (what 0), the first (1; -9). -1; -2." ----

    private static void idle(String mill, int many, int first) {
        Edges.stays(mill + " idle(0, 0)", many, world(mill), g -> g.idle(0, 0));
        Edges.stays(mill + " idle(0, 1)", first, world(mill), g -> g.idle(0, 1));
    }

    static void promise32AllTwelve() {
        idle("p255;", 12, 0);
        idle("l1000;p000;", 12, 0);
    }

    /** 10 LAWS leave 2 of 12 HOURS at least: the first is never none. */
    static void promise32AsFewAsThereCanBe() {
        idle(Edges.TEN + "p001;", 2, 10);
    }

    static void promise32TheFirst() {
        idle("l1900;p001;", 11, 0);
        idle("l1000;p001;", 11, 1);
        idle("l1000;l1200;p001;", 10, 1);
    }

    static void promise32Refused() {
        for (int person : new int[] {-1, 3, MIN, MAX}) {
            Edges.refused("idle(" + person + ", 0)", -1, Edges::some, g -> g.idle(person, 0));
            Edges.refused("idle(" + person + ", 2)", -1, Edges::some, g -> g.idle(person, 2));
        }
        for (int what : new int[] {-1, 2, MIN, MAX}) Edges.refused("idle(0, " + what + ")", -2, Edges::some, g -> g.idle(0, what));
    }

    // ---- 33 never: "NEVER (what 0, bits), ALWAYS (1, bits). -2."; "(0 without PEOPLE)" ----

    private static void never(String mill, int never, int always) {
        Edges.stays(mill + " never(0)", never, world(mill), g -> g.never(0));
        Edges.stays(mill + " never(1)", always, world(mill), g -> g.never(1));
    }

    static void promise33WithoutPeople() {
        never("l3000;", 1, 0);
        never(Edges.TEN, 1023, 0);
    }

    static void promise33WithoutLaws() {
        never("", 0, 0);
        never("p255;p000;", 0, 0);
    }

    static void promise33AllOrNone() {
        never(Edges.TEN + "p001;", 0, 1023);
        never(Edges.TEN + Edges.SIX, 0, 1023);
        never(Edges.TEN + "p254;".repeat(6), 1023, 0);
    }

    static void promise33OneOfThemAlone() {
        never(Edges.TEN + "p254;".repeat(5) + "p001;", 0, 0);
        never(Edges.TEN + "p001;" + "p254;".repeat(5), 0, 0);
        never("l1000;l1011;l1022;p003;p001;", 4, 1);
        never("l1000;l1011;l1022;p001;p003;", 4, 1);
        never("l1000;l1011;l1022;p006;p004;", 1, 4);
    }

    static void promise33Refused() {
        for (int what : new int[] {-1, 2, MIN, MAX}) {
            Edges.refused("never(" + what + ")", -2, Edges::some, g -> g.never(what));
            Edges.refused("never(" + what + ") of a new object", -2, Edges::bare, g -> g.never(what));
        }
    }

    // ---- 34 alike: "the two (what 0; -9), how many (1; -9). -2."; "10 the lesser and the other"; "of several the first" ----

    private static void alike(String mill, int two, int many) {
        Edges.stays(mill + " alike(0)", two, world(mill), g -> g.alike(0));
        Edges.stays(mill + " alike(1)", many, world(mill), g -> g.alike(1));
    }

    static void promise34FewerThanTwo() {
        alike("", -9, -9);
        alike(Edges.TEN, -9, -9);
        alike(Edges.TEN + "p001;", -9, -9);
    }

    static void promise34JustTwo() {
        alike(Edges.TEN + "p001;p001;", 1, 10);
        alike(Edges.TEN + "p001;p000;", 1, 0);
        alike("p000;p000;", 1, 0);
    }

    static void promise34TheLastTwoOfSix() {
        alike(Edges.TEN + "p000;".repeat(4) + "p001;p001;", 45, 10);
    }

    static void promise34TheFirstAndTheLast() {
        alike(Edges.TEN + "p001;" + "p000;".repeat(4) + "p001;", 5, 10);
    }

    static void promise34OfSeveralTheFirst() {
        alike(Edges.TEN + Edges.SIX, 1, 10);
        alike(Edges.TEN + "p000;p001;p001;p001;", 12, 10);
        alike(Edges.EIGHT + "p001;p003;p012;p003;p012;", 13, 2);
        alike(Edges.EIGHT + "p000;".repeat(6), 1, 0);
    }

    static void promise34Refused() {
        for (int what : new int[] {-1, 2, MIN, MAX}) {
            Edges.refused("alike(" + what + ")", -2, Edges::some, g -> g.alike(what));
            Edges.refused("alike(" + what + ") of nobody", -2, Edges::bare, g -> g.alike(what));
        }
    }

    // ---- 35 dropped: "DROPPED; -9. -1."; "of several the least; -9 none is done" ----

    private static void dropped(String mill, int due) {
        Edges.stays(mill + " dropped(0)", due, world(mill), g -> g.dropped(0));
    }

    static void promise35NoneIsDone() {
        dropped("p255;", -9);
        dropped(CHAIN_OF_THREE + "p000;", -9);
        dropped(Edges.TEN + "p254;", -9);
    }

    static void promise35OneAlone() {
        dropped(CHAIN_OF_THREE + "p004;", 2);
        dropped("l1011;".repeat(9) + "l1000;p001;", 9);
        dropped("l1000;p001;", 0);
    }

    static void promise35OfSeveralTheLeast() {
        dropped(Edges.TEN + "p001;", 0);
        dropped(Edges.EIGHT + "p048;", 4);
    }

    static void promise35TheDearest() {
        dropped(CHAIN_OF_THREE + "p001;", 0);
        dropped(CHAIN_OF_THREE + "p003;", 1);
        // LAW 0 is done by 6, and nothing follows from it.
        dropped("l1060;l1012;l1023;l1030;p066;", 1);
    }

    static void promise35WithoutItOthersAreDone() {
        // Without LAW 0 he does 1 and 2, else neither; without LAW 3 he does LAW 0 alone.
        dropped("l1004;l3045;l3046;l1011;p003;", 3);
    }

    static void promise35Refused() {
        for (int person : new int[] {-1, 3, MIN, MAX}) Edges.refused("dropped(" + person + ")", -1, Edges::some, g -> g.dropped(person));
        Edges.refused("dropped(0) of nobody", -1, Edges::bare, g -> g.dropped(0));
        Edges.refused("dropped(6) of six", -1, Edges::full, g -> g.dropped(6));
    }

    // ---- 36 key: "KEY (what 0), how many (1). -2."; "of several the least" ----

    private static void key(String mill, int thing, int many) {
        Edges.stays(mill + " key(0)", thing, world(mill), g -> g.key(0));
        Edges.stays(mill + " key(1)", many, world(mill), g -> g.key(1));
    }

    static void promise36WithoutPeopleOrLaws() {
        key("", 0, 0);
        key(Edges.TEN, 0, 0);
        key(Edges.SIX, 0, 0);
    }

    static void promise36TheFirstAndTheLastThing() {
        key(Edges.TEN + Edges.SIX, 0, 0);
        key("l1077;".repeat(10) + Edges.SIX, 7, 0);
        key("l1070;p128;p128;p001;", 7, 0);
    }

    static void promise36OfSeveralTheLeast() {
        key(Edges.EIGHT + "p255;p255;", 0, 14);
        key(Edges.EIGHT + "p012;p012;", 2, 2);
    }

    static void promise36OneIsTakenInAnyCase() {
        // Whichever is taken, a LAW more is done than by all as they are.
        key("l3000;l3011;l3022;l3033;l3044;l3055;l3066;l3077;p255;", 0, 1);
    }

    static void promise36NobodyHasIt() {
        key("l3004;p254;p254;", 0, 2);
        key("l3001;p001;p001;", 1, 0);
    }

    static void promise36TheTrayAsItIsTold() {
        key("l5011;p003;", 0, 0);
        key("l5011;p007;t02;", 1, 0);
    }

    static void promise36Refused() {
        for (int what : new int[] {-1, 2, MIN, MAX}) {
            Edges.refused("key(" + what + ")", -2, Edges::some, g -> g.key(what));
            Edges.refused("key(" + what + ") of nobody", -2, Edges::bare, g -> g.key(what));
        }
    }

    // ---- 37 latest: "LATEST; -9. -1 either."; "the greatest FIGURE (0 .. 9)" ----

    private static void latest(String mill, int law, int due) {
        Edges.stays(mill + " latest(0, " + law + ")", due, world(mill), g -> g.latest(0, law));
    }

    static void promise37Nine() {
        latest("l1000;p001;", 0, 9);
        latest("l1900;p001;", 0, 9);
        latest("l4900;p001;", 0, 9);
        latest("l1900;l1900;l1000;p001;", 2, 9);
    }

    static void promise37Nought() {
        latest("l1002;l0001;p001;", 0, 0);
    }

    static void promise37None() {
        latest("l1000;p000;", 0, -9);
        latest("l0001;l1305;p001;", 1, -9);
    }

    static void promise37InBetween() {
        latest("l1002;l0301;p001;", 0, 3);
        latest("l1902;l0801;p001;", 0, 8);
    }

    /** HOURS 9, 10 and 11 are the others': with FIGURE 9 he comes too late, with 8 not. */
    static void promise37NoHourLeft() {
        latest("l1900;l1900;l1900;l1900;p001;", 3, 8);
    }

    /** A TEMPER takes the THING of its FIGURE, but only as it is done. */
    static void promise37OfATemper() {
        latest("l4001;p001;", 0, 9);
        latest("l4001;l0910;p001;", 0, 9);
        latest("l4002;l0101;p001;", 0, 0);
    }

    static void promise37Refused() {
        for (int person : new int[] {-1, 3, MIN, MAX}) Edges.refused("latest(" + person + ", 0)", -1, Edges::some, g -> g.latest(person, 0));
        for (int law : new int[] {-1, 6, 10, MIN, MAX}) Edges.refused("latest(0, " + law + ")", -1, Edges::some, g -> g.latest(0, law));
        Edges.refused("latest(0, 10) of ten", -1, Edges::full, g -> g.latest(0, 10));
    }

    // ---- 38 needed: "NEEDED (bits). -1 either."; "(the LAW itself aside)"; "0 he does it not" ----

    private static void needed(String mill, int law, int due) {
        Edges.stays(mill + " needed(0, " + law + ")", due, world(mill), g -> g.needed(0, law));
    }

    static void promise38HeDoesItNot() {
        needed(CHAIN_OF_THREE + "p000;", 2, 0);
        // Without LAW 0 he would do LAW 1; as it is he does it not.
        needed("l1001;l3012;p001;", 1, 0);
    }

    static void promise38ItselfAside() {
        needed(CHAIN_OF_THREE + "p001;", 0, 0);
        needed("l1000;p001;", 0, 0);
    }

    static void promise38AllTheOthers() {
        needed(CHAIN_OF_THREE + "p001;", 2, 3);
        needed("l1001;l1012;l1023;l1034;l1045;l1056;l1067;l1077;p001;", 7, 127);
        needed("l1977;l1001;l1012;l1023;l1034;l1045;l1056;l1067;p001;", 0, 254);
    }

    static void promise38NoneOfThem() {
        needed(Edges.TEN + "p001;", 9, 0);
        needed("l1012;l1012;l1023;p002;", 2, 0);
    }

    static void promise38Refused() {
        for (int person : new int[] {-1, 3, MIN, MAX}) Edges.refused("needed(" + person + ", 0)", -1, Edges::some, g -> g.needed(person, 0));
        for (int law : new int[] {-1, 6, 10, MIN, MAX}) Edges.refused("needed(0, " + law + ")", -1, Edges::some, g -> g.needed(0, law));
        Edges.refused("needed(6, 9) of six", -1, Edges::full, g -> g.needed(6, 9));
    }
}
