import java.util.Arrays;
import java.util.function.Supplier;

/** Edges of promises 23 to 26 and 47 to 49: the ROW, what he had by it, what a LAW was, and how one is judged by it. */
final class EdgesOfTheRow {
    private static final int MIN = Edges.MIN;
    private static final int MAX = Edges.MAX;
    /** LAW 0 is done with THING 1, LAW 1 with THING 3. */
    private static final String TWO_CHAINS = "l1012;l1034;";
    /** Three LAWS that who has THING 0 does in HOURS 9, 10 and 11. */
    private static final String LATE = "l1900;l1900;l1900;";
    private static final int[] LATE_ROW = {99, 99, 99, 99, 99, 99, 99, 99, 99, 0, 1, 2};

    private EdgesOfTheRow() {
    }

    private static Supplier<SearchedAtTheGate> world(String mill, int... row) {
        return () -> {
            SearchedAtTheGate g = Check.gate(mill);
            for (int number : row) g.row(number);
            return g;
        };
    }

    private static int[] nothing(int hours) {
        int[] row = new int[hours];
        Arrays.fill(row, 99);
        return row;
    }

    private static int[] and(int[] row, int... more) {
        int[] all = Arrays.copyOf(row, row.length + more.length);
        System.arraycopy(more, 0, all, row.length, more.length);
        return all;
    }

    // ---- 23 had: "how many (what 0), the least (1; -9). -2; -3 a number that is no LAW nor 99, more than 12." ----

    private static void had(String mill, int many, int least, int... row) {
        String told = mill + " by " + Arrays.toString(row);
        Edges.stays("had(0) of " + told, many, world(mill, row), g -> g.had(0));
        Edges.stays("had(1) of " + told, least, world(mill, row), g -> g.had(1));
    }

    static void promise23NothingTold() {
        had("", 256, 0);
        had(TWO_CHAINS, 256, 0);
    }

    static void promise23ByNoPockets() {
        had(TWO_CHAINS, 0, -9, 99, 0);
        had("l5001;", 0, -9, 0);
    }

    static void promise23ByOneAlone() {
        had(Edges.EIGHT, 1, 255, 0, 1, 2, 3, 4, 5, 6, 7);
        had(Edges.EIGHT, 1, 0, 99);
        had(Edges.EIGHT, 1, 128, 7, 99);
    }

    static void promise23NineAndNinetyIsNone() {
        had(TWO_CHAINS, 64, 0, 99);
        had(TWO_CHAINS, 64, 2, 0, 99);
        had("", 256, 0, 99);
    }

    static void promise23AsManyAsHours() {
        had("", 256, 0, nothing(12));
        had(LATE, 128, 1, LATE_ROW);
        had(LATE, 0, -9, and(Arrays.copyOf(LATE_ROW, 11), 99));
        had(LATE, 128, 1, Arrays.copyOf(LATE_ROW, 11));
    }

    private static void rowRefused(String mill, int... row) {
        String by = " by " + Arrays.toString(row);
        Supplier<SearchedAtTheGate> world = world(mill, row);
        for (int what = 0; what < 2; what++) {
            int about = what;
            Edges.refused("had(" + what + ")" + by, -3, world, g -> g.had(about));
            Edges.refused("feel(" + what + ")" + by, -3, world, g -> g.feel(about));
            Edges.refusedLong("inIt(7, " + what + ")" + by, -3, world, g -> g.inIt(7, about));
        }
    }

    static void promise23MoreThanTwelve() {
        rowRefused(TWO_CHAINS, nothing(13));
        rowRefused(TWO_CHAINS, nothing(16));
        rowRefused(LATE, and(LATE_ROW, 99));
    }

    static void promise23TheLastLawAndTheFirstThatIsNone() {
        had(TWO_CHAINS, 64, 8, 1);
        rowRefused(TWO_CHAINS, 2);
        had(Edges.TEN.substring(6) + "l3000;", 128, 0, 9);
        rowRefused(Edges.TEN, 10);
        rowRefused("", 0);
    }

    static void promise23NinetyEightIsNoLaw() {
        rowRefused(TWO_CHAINS, 98);
        rowRefused(Edges.TEN, 98);
    }

    static void promise23NoLawAtAnyPlace() {
        rowRefused(TWO_CHAINS, and(new int[] {2}, nothing(11)));
        rowRefused(TWO_CHAINS, and(nothing(11), 2));
        rowRefused(TWO_CHAINS, 0, 5, 1);
    }

    /** Each asks anew: what was found ahead of it, of more POCKETS or of fewer, is no more. */
    static void promise23AskedAgain() {
        SearchedAtTheGate g = Check.gate(TWO_CHAINS + "p000;");
        int[][] rows = {{}, {0, 1}, {99, 0}, {99}, {}};
        int[] many = {256, 64, 0, 64, 256};
        for (int i = 0; i < rows.length; i++) {
            Check.row(g, rows[i]);
            for (int again = 0; again < 3; again++) {
                Check.due("had(0) by " + Arrays.toString(rows[i]), g.had(0), many[i]);
                for (int thing = 0; thing < 8; thing++) {
                    String call = "inIt(" + thing + ", 1) by " + Arrays.toString(rows[i]);
                    Check.due(call, g.inIt(thing, 1), world(TWO_CHAINS, rows[i]).get().inIt(thing, 1));
                }
                Check.due("feel(1) by " + Arrays.toString(rows[i]), g.feel(1), many[i] == 0 ? -9 : many[i] / 2);
            }
            Check.due("count(7)", g.count(7), rows[i].length);
        }
    }

    static void promise23TheTrayAsItIsTold() {
        had("l5000;", 0, -9, 0);
        had("l5000;p001;t00;", 128, 1, 0);
    }

    static void promise23AnotherWhatFirst() {
        for (int what : new int[] {-1, 2, MIN, MAX}) {
            Edges.refused("had(" + what + ")", -2, world(TWO_CHAINS), g -> g.had(what));
            Edges.refused("had(" + what + ") by 2", -2, world(TWO_CHAINS, 2), g -> g.had(what));
            Edges.refused("had(" + what + ") by 13", -2, world(TWO_CHAINS, nothing(13)), g -> g.had(what));
        }
    }

    static void promise23ALawMoreMakesItOne() {
        SearchedAtTheGate g = world(TWO_CHAINS, 2).get();
        Check.due("had(0)", g.had(0), -3);
        g.law(1, 0, 50);
        Check.due("had(0) with LAW 2", g.had(0), 32);
        Check.due("had(1) with LAW 2", g.had(1), 32);
    }

    // ---- 24 inIt: "part 0 above, 1 below the line"; "(0 over 1 of none)"; "lowest terms; 0 as 0 over 1" ----

    private static void inIt(String mill, int thing, long above, long below, int... row) {
        String told = mill + " inIt(" + thing + ") by " + Arrays.toString(row);
        Edges.stays(told + " above", above, world(mill, row), g -> g.inIt(thing, 0));
        Edges.stays(told + " below", below, world(mill, row), g -> g.inIt(thing, 1));
    }

    static void promise24OfNone() {
        for (int thing = 0; thing < 8; thing++) inIt(TWO_CHAINS, thing, 0, 1, 99, 0);
    }

    static void promise24InNoneOfThem() {
        inIt(TWO_CHAINS, 3, 0, 1, 0, 99);
        inIt(Edges.EIGHT, 7, 0, 1, 99);
    }

    static void promise24InAllOfThem() {
        inIt(TWO_CHAINS, 1, 1, 1, 0);
        inIt(Edges.EIGHT, 0, 1, 1, 0, 1, 2, 3, 4, 5, 6, 7);
        inIt(Edges.EIGHT, 7, 1, 1, 0, 1, 2, 3, 4, 5, 6, 7);
    }

    static void promise24TheFirstAndTheLastThing() {
        inIt("", 0, 1, 2);
        inIt("", 7, 1, 2);
    }

    static void promise24InLowestTerms() {
        inIt("l2001;", 0, 2, 3, 0);
        inIt("l2001;", 2, 1, 2, 0);
    }

    static void promise24Refused() {
        for (int thing : new int[] {-1, 8, 32, MIN, MAX}) {
            Edges.refusedLong("inIt(" + thing + ", 0)", -1, world(TWO_CHAINS), g -> g.inIt(thing, 0));
        }
        for (int part : new int[] {-1, 2, MIN, MAX}) {
            Edges.refusedLong("inIt(0, " + part + ")", -2, world(TWO_CHAINS), g -> g.inIt(0, part));
        }
    }

    static void promise24InTheirOrder() {
        Edges.refusedLong("inIt(8, 2) by 2", -1, world(TWO_CHAINS, 2), g -> g.inIt(8, 2));
        Edges.refusedLong("inIt(-1, 0) by 2", -1, world(TWO_CHAINS, 2), g -> g.inIt(-1, 0));
        Edges.refusedLong("inIt(0, 2) by 2", -2, world(TWO_CHAINS, 2), g -> g.inIt(0, 2));
        Edges.refusedLong("inIt(0, -1) by 13", -2, world(TWO_CHAINS, nothing(13)), g -> g.inIt(0, -1));
        Edges.refusedLong("inIt(0, 0) by 2", -3, world(TWO_CHAINS, 2), g -> g.inIt(0, 0));
        Check.due("as -1 is told", world("").get().inIt(8, 0), 4000000000000000001L);
        Check.due("as -3 is told", world("", 0).get().inIt(0, 0), 4000000000000000003L);
    }

    // ---- 25 feel: "the THING (what 0; -9), how many (1; -9)"; "most evenly"; "of several the least" ----

    private static void feel(String mill, int thing, int many, int... row) {
        String told = mill + " by " + Arrays.toString(row);
        Edges.stays("feel(0) of " + told, thing, world(mill, row), g -> g.feel(0));
        Edges.stays("feel(1) of " + told, many, world(mill, row), g -> g.feel(1));
    }

    static void promise25OfNone() {
        feel(TWO_CHAINS, -9, -9, 99, 0);
    }

    static void promise25OfOneAlone() {
        feel(Edges.EIGHT, 0, 0, 0, 1, 2, 3, 4, 5, 6, 7);
        feel(Edges.EIGHT, 0, 0, 99);
        feel(Edges.EIGHT, 0, 0, 7, 99);
    }

    static void promise25OfTwo() {
        feel(Edges.EIGHT, 7, 1, 0, 1, 2, 3, 4, 5, 6);
        feel(Edges.EIGHT.substring(6), 0, 1, 99);
        feel(Edges.EIGHT.substring(6), 0, 1, 0, 1, 2, 3, 4, 5, 6);
        feel("l1000;" + Edges.EIGHT.substring(12), 1, 1, 99);
        feel("l1000;" + Edges.EIGHT.substring(12), 1, 1, 0, 1, 2, 3, 4, 5, 6);
    }

    static void promise25OfAll() {
        feel("", 0, 128);
        feel(TWO_CHAINS, 0, 128);
    }

    static void promise25OfSeveralTheLeast() {
        feel(TWO_CHAINS, 0, 32, 99);
        feel("l1000;l1011;", 2, 32, 0, 1);
    }

    static void promise25TheLesserPartOnEitherSide() {
        feel("l2001;", 2, 96, 0);
        feel("l2001;", 2, 32, 99);
        // Each THING is in two of three of these 81 POCKETS.
        feel("l2001;l2023;l2045;l2067;", 0, 27, 0, 1, 2, 3);
    }

    static void promise25Refused() {
        for (int what : new int[] {-1, 2, MIN, MAX}) {
            Edges.refused("feel(" + what + ")", -2, world(TWO_CHAINS), g -> g.feel(what));
            Edges.refused("feel(" + what + ") by 2", -2, world(TWO_CHAINS, 2), g -> g.feel(what));
            Edges.refused("feel(" + what + ") by 13", -2, world(TWO_CHAINS, nothing(13)), g -> g.feel(what));
        }
    }

    // ---- 26 which: "KINDS (what 0), FIGURES (1), WANTEDS (2), bits. -1 either; -2; -3 likewise." ----

    private static void which(String mill, int law, int kinds, int figures, int wanteds, int... row) {
        int[] due = {kinds, figures, wanteds};
        for (int what = 0; what < 3; what++) {
            int about = what;
            String call = mill + " which(0, " + law + ", " + what + ") by " + Arrays.toString(row);
            Edges.stays(call, due[what], world(mill, row), g -> g.which(0, law, about));
        }
    }

    static void promise26NothingTold() {
        which("l1001;p001;", 0, 63, 1023, 255);
        which("l5977;p000;", 0, 63, 1023, 255);
    }

    static void promise26NoneFits() {
        which("l1001;l1001;p000;", 0, 8, 0, 0, 0, 99);
        which("l1001;l0534;p001;", 0, 0, 0, 0, 0, 99, 99, 99, 99, 1);
    }

    static void promise26TheFirstAndTheLastFigure() {
        which("l1001;p001;", 0, 23, 1, 1, 0);
        which("l1901;p001;", 0, 7, 512, 1, and(nothing(9), 0));
        which("l1901;p001;", 0, 16, 0, 0, and(nothing(10), 0));
        which("l4901;p001;", 0, 16, 512, 1, and(nothing(10), 0));
        which("l4001;p001;", 0, 23, 1, 1, 0);
        which("l4001;p001;", 0, 40, 1022, 254, 99);
    }

    static void promise26TheFirstAndTheLastWanted() {
        which("l1077;p001;", 0, 8, 0, 1, 0);
        which("l1001;p128;", 0, 8, 0, 128, 0);
        which("l1001;p255;", 0, 23, 1, 255, 0);
        which("l1001;p000;", 0, 8, 0, 0, 0);
        which("l3001;p255;", 0, 23, 0, 0, 0);
    }

    static void promise26TheFirstAndTheLastKind() {
        which("l5001;p128;p001;t07;b01;", 0, 44, 1, 255, 0);
        SearchedAtTheGate g = world("l0001;p255;p001;t07;", 0).get();
        Check.due("KINDS with something on THE TRAY", g.which(0, 0, 0), 55);
    }

    static void promise26TwelveNumbers() {
        which(LATE + "p001;", 2, 7, 512, 1, LATE_ROW);
        for (int what = 0; what < 3; what++) {
            int about = what;
            Edges.refused("which(0, 0, " + what + ") by 13", -3, world(LATE + "p001;", and(LATE_ROW, 99)), g -> g.which(0, 0, about));
            Edges.refused("which(0, 0, " + what + ") by 3", -3, world(LATE + "p001;", 3), g -> g.which(0, 0, about));
        }
    }

    static void promise26NobodyOrNoLaw() {
        for (int person : new int[] {-1, 1, MIN, MAX}) {
            Edges.refused("which(" + person + ", 0, 0)", -1, world("l1001;p001;"), g -> g.which(person, 0, 0));
        }
        for (int law : new int[] {-1, 1, 10, MIN, MAX}) {
            Edges.refused("which(0, " + law + ", 0)", -1, world("l1001;p001;"), g -> g.which(0, law, 0));
        }
    }

    static void promise26AnotherWhat() {
        for (int what : new int[] {-1, 3, MIN, MAX}) {
            Edges.refused("which(0, 0, " + what + ")", -2, world("l1001;p001;"), g -> g.which(0, 0, what));
        }
    }

    static void promise26InTheirOrder() {
        Edges.refused("which(1, 0, 3) by 2", -1, world("l1001;p001;", 2), g -> g.which(1, 0, 3));
        Edges.refused("which(0, 1, 3) by 2", -1, world("l1001;p001;", 2), g -> g.which(0, 1, 3));
        Edges.refused("which(0, 0, 3) by 2", -2, world("l1001;p001;", 2), g -> g.which(0, 0, 3));
        Edges.refused("which(0, 0, 0) by 1", -3, world("l1001;p001;", 1), g -> g.which(0, 0, 0));
        Edges.refused("which(0, 0, 0) by 98", -3, world("l1001;p001;", 98), g -> g.which(0, 0, 0));
    }

    // ---- 47 row: "A number more of the ROW: how many. -4; -6 (99; 16, too)." ----

    static void promise47TheLeastAndTheGreatest() {
        SearchedAtTheGate g = new SearchedAtTheGate();
        Check.due("row(0)", g.row(0), 1);
        Check.due("row(99)", g.row(99), 2);
        Check.due("row(98), which is no LAW", g.row(98), 3);
    }

    static void promise47Below() {
        for (int v : new int[] {-1, -9, MIN}) Edges.refused("row(" + v + ")", -4, Edges::some, g -> g.row(v));
    }

    static void promise47Above() {
        for (int v : new int[] {100, 999, MAX}) Edges.refused("row(" + v + ")", -6, Edges::some, g -> g.row(v));
    }

    static void promise47TheSixteenth() {
        SearchedAtTheGate g = new SearchedAtTheGate();
        for (int i = 1; i <= 16; i++) Check.due("row(99)", g.row(99), i);
        Check.due("count(7)", g.count(7), 16);
    }

    static void promise47TheSeventeenthHasNoRoom() {
        Edges.refused("row(0), the 17th", -6, Edges::full, g -> g.row(0));
        Edges.refused("row(99), the 17th", -6, world("", nothing(16)), g -> g.row(99));
        Edges.refused("row(100), the 17th", -6, world("", nothing(16)), g -> g.row(100));
    }

    static void promise47BelowAheadOfNoRoom() {
        Edges.refused("row(-1), the 17th", -4, world("", nothing(16)), g -> g.row(-1));
    }

    static void promise47AnewBehindClear() {
        SearchedAtTheGate g = world("", nothing(16)).get();
        g.clear();
        Check.due("row(0)", g.row(0), 1);
    }

    // ---- 48 judge: "JUDGED; -9 (whichever it answers, the ROW has none then). -1 (it stays)."; "beyond HOUR 11, too" ----

    private static void judge(String mill, int answer, int... row) {
        SearchedAtTheGate g = world(mill, row).get();
        String call = mill + " judge(0) of " + Arrays.toString(row);
        Check.due(call, g.judge(0), answer);
        Check.due("the ROW behind " + call, g.count(7), 0);
        for (int what = 11; what <= 16; what++) Check.due("nothing is refused", g.count(what), 0);
        Check.due("of no ROW", g.judge(0), -9);
    }

    static void promise48NothingTold() {
        judge("l1001;p001;", -9);
        judge("p000;", -9);
    }

    static void promise48AllIsSo() {
        judge("l1001;p001;", -9, 0);
        judge("l1001;p001;", -9, and(new int[] {0}, nothing(11)));
        judge(LATE + "p001;", -9, LATE_ROW);
    }

    static void promise48TheFirstHour() {
        judge("l1001;p001;", 0, 99);
        judge("l1001;p000;", 0, 0);
        judge("l1001;l1002;p001;", 0, 1, 0);
    }

    static void promise48TheLastHour() {
        judge(LATE + "p001;", 11, and(Arrays.copyOf(LATE_ROW, 11), 99));
        judge(LATE + "p001;", 11, and(Arrays.copyOf(LATE_ROW, 11), 1));
        judge("p000;", 11, and(nothing(11), 0));
    }

    static void promise48BeyondTheLastHour() {
        for (int number : new int[] {99, 0, 1, 2, 3, 98}) judge(LATE + "p001;", 12, and(LATE_ROW, number));
        judge("p000;", 12, nothing(13));
        judge("p000;", 12, nothing(16));
    }

    static void promise48OfSeveralTheFirst() {
        judge("p000;", 3, 99, 99, 99, 0, 99, 0);
        judge("p000;", 11, and(nothing(11), 0, 99, 99, 99, 99));
        judge("l1001;p001;", 0, and(nothing(12), 99, 99, 99, 99));
    }

    static void promise48NoLawIsNotSo() {
        judge("l1001;p001;", 0, 1);
        judge("l1001;p001;", 1, 0, 98);
        judge("l1001;p001;", 1, 0, 9);
    }

    static void promise48Nobody() {
        for (int person : new int[] {-1, 3, 6, MIN, MAX}) {
            Edges.refused("judge(" + person + ")", -1, Edges::some, g -> g.judge(person));
        }
        Edges.refused("judge(6) of six", -1, Edges::full, g -> g.judge(6));
        Edges.refused("judge(0) of nobody", -1, world("", 99, 0), g -> g.judge(0));
    }

    static void promise48TheLastOfSix() {
        SearchedAtTheGate g = world("l1001;" + "p000;".repeat(5) + "p001;", 0).get();
        Check.due("judge(5)", g.judge(5), -9);
    }

    // ---- 49 clear: "The ROW has none then: how many it had." ----

    static void promise49NoneAndAll() {
        SearchedAtTheGate g = new SearchedAtTheGate();
        Check.due("clear() of none", g.clear(), 0);
        g.row(99);
        Check.due("clear() of one", g.clear(), 1);
        for (int i = 0; i < 16; i++) g.row(i);
        Check.due("clear() of 16", g.clear(), 16);
        Check.due("count(7)", g.count(7), 0);
        Check.due("clear() again", g.clear(), 0);
        Check.due("had(0)", g.had(0), 256);
    }

    static void promise49ARefusedNumberIsNotInIt() {
        SearchedAtTheGate g = new SearchedAtTheGate();
        g.row(-1);
        g.row(100);
        Check.due("clear()", g.clear(), 0);
    }
}
