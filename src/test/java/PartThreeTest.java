/** Promises 32 to 46: a day looked at from beside, and what would be with other laws, things and orders. */
public final class PartThreeTest {
    /** Three LAWS, each by what the one ahead gives: 0, 1, 2. */
    private static final String CHAIN_OF_THREE = "l1001;l1012;l1023;";
    /** Three LAWS that want 0, 1, 2, and give nothing that is wanted. */
    private static final String THREE_ALONE = "l1004;l1015;l1026;";

    public static void main(String[] args) {
        idle();
        never();
        alike();
        dropped();
        key();
        latest();
        needed();
        trade();
        earliest();
        safe();
        adds();
        ways();
        behind();
        give();
        ever();
        Check.end();
    }

    private static void idle() {
        SearchedAtTheGate g = Check.gate("l1204;l1001;p001;p000;");
        Check.due("idle(0, 0)", g.idle(0, 0), 10);
        Check.due("idle(0, 1)", g.idle(0, 1), 1);
        Check.due("idle(1, 0)", g.idle(1, 0), 12);
        Check.due("idle(1, 1)", g.idle(1, 1), 0);
        Check.due("idle(2, 2)", g.idle(2, 2), -1);
        Check.due("idle(-1, 0)", g.idle(-1, 0), -1);
        Check.due("idle(0, 2)", g.idle(0, 2), -2);
        Check.due("idle(0, -1)", g.idle(0, -1), -2);
    }

    private static void never() {
        SearchedAtTheGate g = Check.gate("l1001;l1012;l1034;p001;p002;");
        Check.due("never(0)", g.never(0), 4);
        Check.due("never(1)", g.never(1), 2);
        Check.due("never(2)", g.never(2), -2);
        Check.due("never(-1)", g.never(-1), -2);
        g = Check.gate("l1001;l1012;l1034;p002;p001;");
        Check.due("the other way: never(0)", g.never(0), 4);
        Check.due("the other way: never(1)", g.never(1), 2);
        g = Check.gate("l1001;l1012;l1034;");
        Check.due("never(0) without PEOPLE", g.never(0), 7);
        Check.due("never(1) without PEOPLE", g.never(1), 0);
    }

    private static void alike(String people, int two, int many) {
        SearchedAtTheGate g = Check.gate(THREE_ALONE + people);
        Check.due("alike(0) of " + people, g.alike(0), two);
        Check.due("alike(1) of " + people, g.alike(1), many);
    }

    private static void alike() {
        alike("", -9, -9);
        alike("p007;", -9, -9);
        alike("p000;p007;", 1, 0);
        alike("p007;p003;p006;p007;", 3, 3);
        alike("p003;p003;p003;", 1, 2);
        alike("p000;p000;p001;p001;", 23, 1);
        alike("p001;p002;p004;p003;p005;p006;", 3, 1);
        SearchedAtTheGate g = new SearchedAtTheGate();
        Check.due("alike(2)", g.alike(2), -2);
        Check.due("alike(-1)", g.alike(-1), -2);
    }

    private static void dropped() {
        SearchedAtTheGate g = Check.gate(CHAIN_OF_THREE + "p001;p003;p000;p008;p006;p004;");
        int[] due = {0, 1, -9, -9, 1, 2};
        for (int person = 0; person < 6; person++) Check.due("dropped(" + person + ")", g.dropped(person), due[person]);
        Check.due("dropped(6)", g.dropped(6), -1);
        Check.due("dropped(-1)", g.dropped(-1), -1);
    }

    private static void key(String people, int thing, int many) {
        SearchedAtTheGate g = Check.gate(CHAIN_OF_THREE + people);
        Check.due("key(0) of " + people, g.key(0), thing);
        Check.due("key(1) of " + people, g.key(1), many);
    }

    private static void key() {
        key("", 0, 0);
        key("p001;p002;", 0, 2);
        key("p002;p002;p004;", 1, 1);
        key("p004;", 2, 0);
        key("p000;", 0, 0);
        key("p005;p006;", 0, 3);
        SearchedAtTheGate g = Check.gate("l3001;p128;p001;");
        Check.due("nothing makes it fewer", g.key(0), 1);
        Check.due("how many", g.key(1), 1);
        Check.due("key(2)", g.key(2), -2);
        Check.due("key(-1)", g.key(-1), -2);
    }

    private static void latest() {
        SearchedAtTheGate g = Check.gate("l1001;l0302;p001;p000;");
        Check.due("latest(0, 0)", g.latest(0, 0), 3);
        Check.due("latest(0, 1)", g.latest(0, 1), 9);
        Check.due("latest(1, 0)", g.latest(1, 0), -9);
        Check.due("the FIGURE stays", g.lawOf(0, 1), 0);
        Check.due("latest(2, 0)", g.latest(2, 0), -1);
        Check.due("latest(-1, 0)", g.latest(-1, 0), -1);
        Check.due("latest(0, 2)", g.latest(0, 2), -1);
        Check.due("latest(0, -1)", g.latest(0, -1), -1);
        g = Check.gate("l0001;l1305;p001;");
        Check.due("never in time", g.latest(0, 1), -9);
        g = Check.gate("l1002;l0001;p001;");
        Check.due("at once or never", g.latest(0, 0), 0);
        g = Check.gate("l1302;l0201;p001;");
        Check.due("he does it not now, but would", g.when(0, 0), -9);
        Check.due("the greatest with which he would", g.latest(0, 0), 2);
    }

    private static void needed() {
        SearchedAtTheGate g = Check.gate(CHAIN_OF_THREE + "p001;p003;p004;p000;");
        int[][] due = {{0, 1, 3}, {0, 0, 2}, {0, 0, 0}, {0, 0, 0}};
        for (int person = 0; person < 4; person++) {
            for (int law = 0; law < 3; law++) Check.due("needed(" + person + ", " + law + ")", g.needed(person, law), due[person][law]);
        }
        Check.due("needed(4, 0)", g.needed(4, 0), -1);
        Check.due("needed(-1, 0)", g.needed(-1, 0), -1);
        Check.due("needed(0, 3)", g.needed(0, 3), -1);
        Check.due("needed(0, -1)", g.needed(0, -1), -1);
    }

    private static void trade() {
        SearchedAtTheGate g = Check.gate("l1001;l1012;p003;p032;p033;p000;");
        Check.due("trade(0, 1, 0)", g.trade(0, 1, 0), 3);
        Check.due("trade(0, 1, 1)", g.trade(0, 1, 1), 5);
        Check.due("trade(1, 0, 0)", g.trade(1, 0, 0), 3);
        Check.due("trade(1, 0, 1)", g.trade(1, 0, 1), 50);
        Check.due("trade(2, 1, 0)", g.trade(2, 1, 0), 2);
        Check.due("trade(2, 1, 1)", g.trade(2, 1, 1), 88);
        Check.due("trade(0, 3, 0)", g.trade(0, 3, 0), 2);
        Check.due("trade(0, 3, 1)", g.trade(0, 3, 1), 88);
        Check.due("POCKETS stay", g.pockets(0), 3);
        Check.due("trade(0, 0, 2)", g.trade(0, 0, 2), -1);
        Check.due("trade(4, 0, 0)", g.trade(4, 0, 0), -1);
        Check.due("trade(0, 4, 0)", g.trade(0, 4, 0), -1);
        Check.due("trade(-1, 0, 0)", g.trade(-1, 0, 0), -1);
        Check.due("trade(0, -1, 0)", g.trade(0, -1, 0), -1);
        Check.due("trade(0, 1, 2)", g.trade(0, 1, 2), -2);
        Check.due("trade(0, 1, -1)", g.trade(0, 1, -1), -2);
    }

    private static void earliest() {
        SearchedAtTheGate g = Check.gate("l1314;l5001;l1345;l3304;");
        Check.due("earliest(0, 0)", g.earliest(0, 0), 3);
        Check.due("earliest(0, 1)", g.earliest(0, 1), 2);
        Check.due("an empty TRAY: earliest(1, 0)", g.earliest(1, 0), -9);
        Check.due("an empty TRAY: earliest(1, 1)", g.earliest(1, 1), -9);
        Check.due("not behind LAW 0: earliest(2, 0)", g.earliest(2, 0), 3);
        Check.due("not behind LAW 0: earliest(2, 1)", g.earliest(2, 1), 16);
        Check.due("earliest(3, 0)", g.earliest(3, 0), 3);
        Check.due("earliest(3, 1)", g.earliest(3, 1), 0);
        Check.due("earliest(4, 2)", g.earliest(4, 2), -1);
        Check.due("earliest(-1, 0)", g.earliest(-1, 0), -1);
        Check.due("earliest(0, 2)", g.earliest(0, 2), -2);
        Check.due("earliest(0, -1)", g.earliest(0, -1), -2);
    }

    private static void safe() {
        SearchedAtTheGate g = Check.gate("l1001;l1012;p007;p000;");
        Check.due("safe(0)", g.safe(0), 6);
        Check.due("safe(1)", g.safe(1), 0);
        Check.due("safe(2)", g.safe(2), -1);
        Check.due("safe(-1)", g.safe(-1), -1);
        Check.due("0 is safe", Check.gate("l1014;p003;").safe(0), 1);
        Check.due("a LAW more is not the same", Check.gate("l3004;p001;").safe(0), 0);
        Check.due("a later HOUR is not the same", Check.gate("l1014;l1121;p006;").safe(0), 0);
    }

    private static void adds(String mill, int thing, long above, long below) {
        SearchedAtTheGate g = Check.gate(mill);
        Check.fraction(mill + " adds(0, " + thing + ")", g.adds(0, thing, 0), g.adds(0, thing, 1), above, below);
    }

    private static void adds() {
        adds("l1004;p001;", 0, 1, 1);
        adds("l1004;p003;", 1, 0, 1);
        adds("l2001;p003;", 0, 1, 2);
        adds("l2001;p003;", 1, 1, 2);
        adds("l3004;p001;", 0, -1, 1);
        adds("l1002;l1012;l3324;l3325;l3326;p003;", 0, -1, 2);
        adds("l2001;l1223;p007;", 0, 1, 2);
        // Any of three does both: two of them come first in 4 of 6 orders.
        adds("l1003;l1013;l1023;l1034;p007;", 0, 4, 3);
        adds("l1005;p255;", 0, 1, 1);
        SearchedAtTheGate g = Check.gate("l1004;p001;");
        Check.due("adds(1, 0, 2)", g.adds(1, 0, 2), Check.refused(-1));
        Check.due("adds(-1, 0, 0)", g.adds(-1, 0, 0), Check.refused(-1));
        Check.due("adds(0, 8, 2)", g.adds(0, 8, 2), Check.refused(-1));
        Check.due("adds(0, -1, 0)", g.adds(0, -1, 0), Check.refused(-1));
        Check.due("adds(0, 1, 2)", g.adds(0, 1, 2), Check.refused(-2));
        Check.due("adds(0, 0, -1)", g.adds(0, 0, -1), Check.refused(-2));
        Check.due("adds(0, 1, 0)", g.adds(0, 1, 0), Check.refused(-3));
    }

    private static void ways(String mill, int law, int many, int fewest) {
        SearchedAtTheGate g = Check.gate(mill);
        Check.due(mill + " ways(" + law + ", 0)", g.ways(law, 0), many);
        Check.due(mill + " ways(" + law + ", 1)", g.ways(law, 1), fewest);
    }

    private static void ways() {
        ways("l1314;", 0, 128, 2);
        ways("l2053;", 0, 192, 8);
        ways("l5001;", 0, 0, -9);
        ways("l3004;", 0, 128, 0);
        ways("l3014;l3245;l3034;", 1, 32, 10);
        ways("l3004;l3014;l3243;l1023;l1437;", 4, 192 + 16 - 8, 4);
        SearchedAtTheGate g = Check.gate("l1314;");
        Check.due("ways(1, 2)", g.ways(1, 2), -1);
        Check.due("ways(-1, 0)", g.ways(-1, 0), -1);
        Check.due("ways(0, 2)", g.ways(0, 2), -2);
        Check.due("ways(0, -1)", g.ways(0, -1), -2);
    }

    private static void behind() {
        SearchedAtTheGate g = Check.gate("l2001;p001;");
        int[] days = {0, 1, 2, 3, 59, 60};
        int[] due = {1, 2, 1, 2, 2, 1};
        for (int i = 0; i < 6; i++) Check.due("behind(0, " + days[i] + ")", g.behind(0, days[i]), due[i]);
        Check.due("behind(1, -1)", g.behind(1, -1), -1);
        Check.due("behind(-1, 0)", g.behind(-1, 0), -1);
        Check.due("behind(0, -1)", g.behind(0, -1), -4);
        Check.due("behind(0, 61)", g.behind(0, 61), -6);
        Check.due("POCKETS stay", g.pockets(0), 1);
    }

    private static void give() {
        SearchedAtTheGate g = Check.gate("l1001;l1012;p003;p000;p001;p006;");
        Check.due("0 or 1 makes one LAW more, 0 is less", g.give(0, 1), 0);
        Check.due("give(1, 0)", g.give(1, 0), -9);
        Check.due("nothing is more", g.give(2, 1), -9);
        Check.due("1 alone is no more", g.give(3, 1), -9);
        Check.due("give(0, 0)", g.give(0, 0), -1);
        Check.due("give(0, 4)", g.give(0, 4), -1);
        Check.due("give(4, 0)", g.give(4, 0), -1);
        Check.due("give(-1, 0)", g.give(-1, 0), -1);
        Check.due("give(0, -1)", g.give(0, -1), -1);
        g = Check.gate("l1001;l1012;l1056;l1067;l1076;p003;p000;p096;");
        Check.due("the most", g.give(2, 1), 5);
        g = Check.gate("l3001;p128;p001;");
        Check.due("had by the other already", g.give(1, 0), -9);
    }

    private static void ever() {
        // LAW 0 wants what LAW 1 gives in the last HOUR in which it could.
        SearchedAtTheGate g = Check.gate("l4923;l4912;p002;p000;");
        Check.due("ever(0, 1)", g.ever(0, 1), 2);
        Check.due("ever(0, 2)", g.ever(0, 2), 3);
        Check.due("ever(0, 60)", g.ever(0, 60), 3);
        Check.due("ever(1, 60)", g.ever(1, 60), 0);
        Check.due("ever(2, 0)", g.ever(2, 0), -1);
        Check.due("ever(-1, 1)", g.ever(-1, 1), -1);
        Check.due("ever(0, 0)", g.ever(0, 0), -4);
        Check.due("ever(0, 61)", g.ever(0, 61), -6);
        Check.due("POCKETS stay", g.pockets(0), 2);
    }
}
