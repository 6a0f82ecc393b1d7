import java.lang.reflect.Method;
import java.util.ArrayList;
import java.util.Arrays;
import java.util.List;
import java.util.TreeSet;
import java.util.function.Supplier;

/**
 * What each promise refuses, and in which order: each call with all values at the edges together, the least, the
 * greatest, the first beyond them on either side, and the most an int can tell, in worlds with nothing, with some
 * and with all there is room for. A refused call changes nothing but how many there were.
 */
public final class RefusalsTest {
    /**
     * Of each call what it is given, and the numbers that it tells, in that order. p one of PEOPLE, l LAW, t THING,
     * h HOUR, 2 to 4 a what with as many, k KIND, f FIGURE, T two THINGS, b bits of THINGS, B bits of LAWS, e letter,
     * r number of the ROW, o odds, n DAYS from 0, m DAYS from 1, N mornings, a anything.
     */
    private static final String[] CALLS = {
        "feed e -4 -6", "mill -", "lawOf l4 -1 -2", "pockets p -1", "law kfT -2 -4 -6", "person b -4 -6",
        "takes pt -1 -3", "brings pt -1", "turn lkf -1 -2 -4 -6", "clears -", "day - -6", "back - -3", "at ph2 -1 -2",
        "done p4 -1 -2", "when pl -1", "instead pb2 -1 -4 -6 -2", "stopped pl -1", "allStopped pB -1 -4 -6",
        "agrees p2 -1 -2", "bring pl -1", "empty 3 -2", "had 2 -2 -3", "inIt t2 -1 -2 -3", "feel 2 -2 -3",
        "which pl3 -1 -2 -3", "tray 2 -2", "onTray p -1", "guard p2 -1 -2", "rounds -", "chance plo2 -1 -4 -6 -2",
        "idle p2 -1 -2", "never 2 -2", "alike 2 -2", "dropped p -1", "key 2 -2", "latest pl -1", "needed pl -1",
        "trade pp2 -1 -2", "earliest l2 -1 -2", "safe p -1", "adds pt2 -1 -2 -3", "ways l2 -1 -2",
        "behind pn -1 -4 -6", "give pp -1", "ever pm -1 -4 -6", "row r -4 -6", "judge p -1", "clear -",
        "lots Na2 -4 -6 -2", "image -", "restore - -3", "count a"
    };
    private static final List<String> CHANGING = List.of("feed", "mill", "law", "person", "takes", "brings", "turn",
        "clears", "day", "back", "row", "judge", "clear", "image", "restore");
    /** So many refused calls come on one object, that it is not used for more than 512. */
    private static final int AT_ONCE = 50;

    private final String name;
    private final String given;
    private final int[] order;
    private final Supplier<SearchedAtTheGate> world;
    private final boolean isRowSo;
    private final boolean hasImage;
    private final Method method;
    private final int laws;
    private final int people;
    private final TreeSet<Integer> seen = new TreeSet<>();
    private List<int[]> refused = new ArrayList<>();

    private RefusalsTest(String call, Supplier<SearchedAtTheGate> world, boolean isRowSo, boolean hasImage) {
        String[] parts = call.split(" ");
        name = parts[0];
        given = parts[1].equals("-") ? "" : parts.length > 1 ? parts[1] : "";
        order = Arrays.stream(parts).skip(2).mapToInt(Integer::parseInt).toArray();
        this.world = world;
        this.isRowSo = isRowSo;
        this.hasImage = hasImage;
        method = Arrays.stream(SearchedAtTheGate.class.getMethods()).filter(m -> m.getName().equals(name)).findFirst().get();
        laws = world.get().count(0);
        people = world.get().count(1);
    }

    public static void main(String[] args) {
        for (String call : CALLS) {
            TreeSet<Integer> seen = new TreeSet<>();
            seen.addAll(new RefusalsTest(call, Edges::bare, true, false).go("of nothing"));
            seen.addAll(new RefusalsTest(call, Edges::some, true, true).go("of some"));
            seen.addAll(new RefusalsTest(call, Edges::full, false, true).go("of all there is room for"));
            seen.addAll(new RefusalsTest(call, () -> withRow(6), false, true).go("with a ROW of no LAW"));
            seen.addAll(new RefusalsTest(call, () -> withRow(98), false, true).go("with a 98 in the ROW"));
            seen.addAll(new RefusalsTest(call, RefusalsTest::withLongRow, false, true).go("with a ROW of 13"));
            // DAY 999 is too far for 512 calls.
            int named = call.startsWith("day ") ? 0 : call.split(" ").length - 2;
            Check.due("how many numbers " + call + " could answer", seen.size(), Math.max(0, named));
        }
        Check.end();
    }

    private static SearchedAtTheGate withRow(int number) {
        SearchedAtTheGate g = Edges.some();
        g.row(number);
        return g;
    }

    private static SearchedAtTheGate withLongRow() {
        SearchedAtTheGate g = Edges.some();
        for (int i = g.count(7); i < 13; i++) g.row(99);
        return g;
    }

    private TreeSet<Integer> go(String worldName) {
        Check.about("in a world " + worldName);
        combine(new int[given.length()], 0);
        refuseAll();
        return seen;
    }

    private void combine(int[] args, int place) {
        if (place == args.length) {
            call(args.clone());
            return;
        }
        for (int value : edges(given.charAt(place))) {
            args[place] = value;
            combine(args, place + 1);
        }
    }

    private int[] edges(char kind) {
        if (kind == 'T') return new int[] {Edges.MIN, -1, 0, 7, 8, 9, 10, 18, 70, 77, 78, 79, 80, 87, 100, 177, Edges.MAX};
        if (kind == 'a') return new int[] {Edges.MIN, -1, 0, Edges.MAX};
        int[] range = range(kind);
        TreeSet<Integer> values = new TreeSet<>(List.of(Edges.MIN, Edges.MAX, range[0] - 1, range[1] + 1, range[0], range[1]));
        return values.stream().mapToInt(v -> v).toArray();
    }

    /** The least and the greatest that is taken; where there is none at all, the greatest is below the least. */
    private int[] range(char kind) {
        switch (kind) {
            case 'p': return new int[] {0, people - 1};
            case 'l': return new int[] {0, laws - 1};
            case 't': return new int[] {0, 7};
            case 'h': return new int[] {0, 11};
            case '2': case '3': case '4': return new int[] {0, kind - '1'};
            case 'k': return new int[] {0, 5};
            case 'f': return new int[] {0, 9};
            case 'b': case 'e': return new int[] {0, 255};
            case 'B': return new int[] {0, (1 << laws) - 1};
            case 'r': return new int[] {0, 99};
            case 'o': return new int[] {2, 20};
            case 'n': return new int[] {0, 60};
            case 'm': return new int[] {1, 60};
            default: return new int[] {1, 20};
        }
    }

    /** What this value alone would be refused with; 0 it is taken. */
    private int numberOf(char kind, int value) {
        if (kind == 'a') return 0;
        if (kind == 'T') return value < 0 ? -4 : value / 10 > 7 || value % 10 > 7 ? -6 : 0;
        int[] range = range(kind);
        if (value >= range[0] && value <= range[1]) return 0;
        if ("plth".indexOf(kind) >= 0) return -1;
        if ("234k".indexOf(kind) >= 0) return -2;
        return value < range[0] ? -4 : -6;
    }

    private int dueNumber(int[] args) {
        for (int number : order) {
            for (int i = 0; i < args.length; i++) {
                if (numberOf(given.charAt(i), args[i]) == number) return number;
            }
            if (number == numberOfWorld(args)) return number;
        }
        return 0;
    }

    /** What no value alone tells: one twice, something that is not as told, no room. */
    private int numberOfWorld(int[] a) {
        SearchedAtTheGate g = world.get();
        switch (name) {
            case "trade": case "give": return a[0] == a[1] ? -1 : 0;
            case "takes": case "adds": return (g.pockets(a[0]) >> a[1] & 1) == 0 ? -3 : 0;
            case "back": return g.count(8) == 0 ? -3 : 0;
            case "had": case "inIt": case "feel": case "which": return isRowSo ? 0 : -3;
            case "restore": return hasImage ? 0 : -3;
            case "feed": return g.count(6) == 96 ? -6 : 0;
            case "law": return g.count(0) == 10 ? -6 : 0;
            case "person": return g.count(1) == 6 ? -6 : 0;
            case "row": return g.count(7) == 16 ? -6 : 0;
            default: return 0;
        }
    }

    private void call(int[] args) {
        int number = dueNumber(args);
        if (number != 0) {
            seen.add(number);
            refused.add(args);
            if (refused.size() == AT_ONCE) refuseAll();
            return;
        }
        SearchedAtTheGate g = world.get();
        SearchedAtTheGate twin = world.get();
        long answer = answer(g, args);
        String call = name + Arrays.toString(args);
        boolean isLong = method.getReturnType() == long.class;
        boolean isRefused = isLong ? answer > Check.refused(0) : answer < 0 && answer > -7;
        Check.due(call + ", which answers " + answer + ": refused", isRefused ? 1 : 0, 0);
        for (int what = 11; what <= 16; what++) Check.due("count(" + what + ") behind " + call, g.count(what), twin.count(what));
        if (!CHANGING.contains(name)) Edges.same(call, g, twin);
    }

    private void refuseAll() {
        SearchedAtTheGate g = world.get();
        SearchedAtTheGate twin = world.get();
        int[] due = new int[7];
        StringBuilder calls = new StringBuilder();
        for (int[] args : refused) {
            String call = name + Arrays.toString(args);
            int number = dueNumber(args);
            Check.due(call, answer(g, args), method.getReturnType() == long.class ? Check.refused(number) : number);
            due[-number]++;
            calls.append(call).append(' ');
            Check.due("count(" + (10 - number) + ") behind " + call, g.count(10 - number), twin.count(10 - number) + due[-number]);
        }
        for (int i = 1; i <= 6; i++) Check.due("count(" + (10 + i) + ") behind " + calls, g.count(10 + i), twin.count(10 + i) + due[i]);
        Edges.same(calls.toString(), g, twin);
        refused = new ArrayList<>();
    }

    private long answer(SearchedAtTheGate g, int[] args) {
        try {
            return ((Number) method.invoke(g, Arrays.stream(args).boxed().toArray())).longValue();
        } catch (ReflectiveOperationException e) {
            throw new IllegalStateException(name + Arrays.toString(args), e);
        }
    }
}
