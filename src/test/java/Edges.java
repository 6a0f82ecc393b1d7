import java.util.ArrayList;
import java.util.List;
import java.util.function.Supplier;
import java.util.function.ToLongFunction;

/** Worlds to be refused in, and all that can be seen of one: what a call changed shows against a twin without it. */
final class Edges {
    static final int MIN = Integer.MIN_VALUE;
    static final int MAX = Integer.MAX_VALUE;

    /** Each of these LAWS wants a THING of its own, and changes nothing. */
    static final String EIGHT = "l1000;l1011;l1022;l1033;l1044;l1055;l1066;l1077;";
    /** Ten LAWS that who has THING 0 does one by one from HOUR 0 on. */
    static final String TEN = "l1000;".repeat(10);
    static final String SIX = "p255;".repeat(6);

    private Edges() {
    }

    static SearchedAtTheGate bare() {
        return new SearchedAtTheGate();
    }

    /** A LAW of each KIND, 3 PEOPLE, something on THE TRAY, in the ROW, in letters, to be taken back, and an image. */
    static SearchedAtTheGate some() {
        SearchedAtTheGate g = bare();
        for (int kind = 0; kind <= 5; kind++) g.law(kind, kind, new int[] {1, 12, 34, 56, 67, 70}[kind]);
        for (int pockets : new int[] {9, 22, 129}) g.person(pockets);
        g.takes(2, 7);
        g.image();
        g.turn(5, 3, 2);
        g.brings(1, 5);
        g.day();
        for (char letter : "b05".toCharArray()) g.feed(letter);
        tellDayOfFirst(g, 4);
        refuseSome(g);
        return g;
    }

    /** Nothing more has room: 10 LAWS, 6 PEOPLE, 96 letters, 16 in the ROW; 8 to be taken back. */
    static SearchedAtTheGate full() {
        SearchedAtTheGate g = bare();
        for (int law = 0; law < 10; law++) g.law(law % 6, law, law % 8 * 10 + (law + 3) % 8);
        for (int person = 0; person < 6; person++) g.person(255 - 31 * person);
        for (int thing = 0; thing < 5; thing++) g.takes(0, thing);
        g.image();
        for (int i = 0; i < 2; i++) g.day();
        g.turn(9, 0, 2);
        g.brings(4, 6);
        for (char letter : "b01;".repeat(24).toCharArray()) g.feed(letter);
        tellDayOfFirst(g, 16);
        refuseSome(g);
        return g;
    }

    private static void tellDayOfFirst(SearchedAtTheGate g, int numbers) {
        for (int hour = 0; hour < numbers; hour++) {
            int law = hour < 12 ? g.at(0, hour, 0) : -9;
            g.row(law < 0 ? 99 : law);
        }
    }

    private static void refuseSome(SearchedAtTheGate g) {
        g.pockets(-1);
        for (int i = 0; i < 2; i++) g.tray(2);
        for (int i = 0; i < 3; i++) g.person(-1);
        for (int i = 0; i < 4; i++) g.person(256);
    }

    /** The call refuses with this number, counts that, and changes nothing else. */
    static void refused(String call, int number, Supplier<SearchedAtTheGate> world, ToLongFunction<SearchedAtTheGate> act) {
        counts(call, number, number, world, act);
    }

    /** Likewise of a call that answers a long. */
    static void refusedLong(String call, int number, Supplier<SearchedAtTheGate> world, ToLongFunction<SearchedAtTheGate> act) {
        counts(call, Check.refused(number), number, world, act);
    }

    /** The call answers this, and changes nothing at all. */
    static void stays(String call, long answer, Supplier<SearchedAtTheGate> world, ToLongFunction<SearchedAtTheGate> act) {
        counts(call, answer, 0, world, act);
    }

    private static void counts(String call, long answer, int number, Supplier<SearchedAtTheGate> world,
            ToLongFunction<SearchedAtTheGate> act) {
        SearchedAtTheGate called = world.get();
        SearchedAtTheGate twin = world.get();
        Check.due(call, act.applyAsLong(called), answer);
        for (int what = 11; what <= 16; what++) {
            Check.due("count(" + what + ") behind " + call, called.count(what), twin.count(what) + (what == 10 - number ? 1 : 0));
        }
        same(call, called, twin);
    }

    static void same(String call, SearchedAtTheGate called, SearchedAtTheGate twin) {
        List<Integer> got = all(called);
        List<Integer> due = all(twin);
        Check.due("all that there is behind " + call + ", " + got + " as " + due, got.equals(due) ? 1 : 0, 1);
    }

    /** All but REFUSALS; what can be seen only by using it up is used up. Some 400 calls at most. */
    private static List<Integer> all(SearchedAtTheGate g) {
        List<Integer> seen = new ArrayList<>();
        for (int what = 0; what <= 8; what++) seen.add(g.count(what));
        world(g, seen, 4);
        seen.add(g.count(1) > 0 ? g.judge(0) : g.clear());
        for (int size = g.count(8); size > 0; size--) {
            seen.add(g.back());
            world(g, seen, 2);
        }
        g.feed(';');
        seen.add(g.mill());
        world(g, seen, 2);
        seen.add(g.restore());
        world(g, seen, 4);
        return seen;
    }

    private static void world(SearchedAtTheGate g, List<Integer> seen, int parts) {
        seen.add(g.count(2));
        seen.add(g.tray(0));
        for (int person = 0; person < g.count(1); person++) seen.add(g.pockets(person));
        int laws = g.count(0);
        // Of what can be taken back in these worlds, only the last LAW was turned.
        for (int law = parts == 4 ? 0 : Math.max(0, laws - 1); law < laws; law++) {
            for (int part = 0; part < parts; part++) seen.add(g.lawOf(law, part));
        }
    }
}
