import java.util.Arrays;
import java.util.List;
import java.util.Random;

/** Runs of calls by lot, always the same ones, on the class and on the model: all answers are alike. */
public final class ModelTest {
    /** Of each method what it is given: p one, l LAW, t THING, h HOUR, w what, k KIND, f FIGURE, and so on. */
    private static final String[] CALLS = {"lawOf lw", "pockets p", "law kfT", "person s", "takes pt", "brings pt",
        "turn lkf", "clears", "day", "back", "at phw", "done pw", "when pl", "instead psw", "stopped pl",
        "allStopped pS", "agrees pw", "bring pl", "empty w", "had w", "inIt tw", "feel w", "which plw", "tray w",
        "onTray p", "guard pw", "rounds", "chance plow", "idle pw", "never w", "alike w", "dropped p", "key w",
        "latest pl", "needed pl", "trade ppw", "earliest lw", "safe p", "adds ptw", "ways lw", "behind pn", "give pp",
        "ever pn", "row r", "judge p", "clear", "lots Nzw", "image", "restore", "count c", "mill", "feed e"};
    private static final int[] ODD = {Integer.MIN_VALUE, -1000, -2, -1, 256, 1000, 1 << 20, Integer.MAX_VALUE};

    private final Random random;
    private final SearchedAtTheGate gate = new SearchedAtTheGate();
    private final Model model = new Model();
    private final StringBuilder run = new StringBuilder();
    private int calls = 0;

    private ModelTest(long seed) {
        random = new Random(seed);
    }

    public static void main(String[] args) throws ReflectiveOperationException {
        int runs = args.length > 0 ? Integer.parseInt(args[0]) : 60;
        for (int seed = 0; seed < runs; seed++) new ModelTest(seed).go();
        Check.end();
    }

    private void go() throws ReflectiveOperationException {
        begin();
        while (calls < 480) {
            int lot = random.nextInt(100);
            if (lot < 4) {
                tellMill();
            } else if (lot < 8) {
                tellRow();
            } else {
                String[] call = CALLS[random.nextInt(CALLS.length)].split(" ");
                int[] args = new int[call.length > 1 ? call[1].length() : 0];
                for (int i = 0; i < args.length; i++) args[i] = argument(call[1].charAt(i));
                if (isToBeSpared(call[0])) continue;
                both(call[0], args);
            }
        }
    }

    /** What would undo too much comes more seldom. */
    private boolean isToBeSpared(String name) {
        boolean spared = List.of("clears", "clear", "restore", "law", "person").contains(name);
        return spared && random.nextInt(3) > 0;
    }

    private void begin() throws ReflectiveOperationException {
        int laws = random.nextInt(3) == 0 ? 10 : random.nextInt(11);
        // Where each LAW wants a THING of its own, a ROW may tell just one POCKETS.
        boolean isTelling = random.nextInt(3) == 0;
        for (int i = 0; i < laws; i++) {
            int kind = isTelling && random.nextInt(10) > 0 ? 1 + 2 * random.nextInt(2) : random.nextInt(6);
            int things = isTelling ? i % 8 * 11 : thing() * 10 + thing();
            both("law", kind, random.nextInt(random.nextBoolean() ? 10 : 3), things);
        }
        int people = random.nextInt(7);
        for (int i = 0; i < people; i++) both("person", random.nextInt(256));
    }

    private int thing() {
        return random.nextInt(8);
    }

    private void tellMill() throws ReflectiveOperationException {
        StringBuilder text = new StringBuilder();
        int statements = 1 + random.nextInt(5);
        for (int i = 0; i < statements; i++) {
            switch (random.nextInt(6)) {
                case 0:
                    text.append('l').append(random.nextInt(7)).append(random.nextInt(10)).append(random.nextInt(9)).append(random.nextInt(9));
                    break;
                case 1:
                    text.append(String.format("p%03d", random.nextInt(270)));
                    break;
                case 2:
                    text.append('t').append(random.nextInt(4)).append(random.nextInt(9));
                    break;
                case 3:
                    text.append('b').append(random.nextInt(4)).append(random.nextInt(9));
                    break;
                default:
                    text.append(random.nextInt(5) == 0 ? 'x' : 'd');
            }
            text.append(';');
        }
        int lot = random.nextInt(8);
        int place = random.nextInt(text.length());
        if (lot == 0) text.deleteCharAt(place);
        if (lot == 1) text.insert(place, ";ldtpbx0q".charAt(random.nextInt(9)));
        if (lot == 2) text.setLength(place);
        for (int i = 0; i < text.length(); i++) both("feed", text.charAt(i));
        both("mill");
    }

    private void tellRow() throws ReflectiveOperationException {
        both("clear");
        int laws = model.count(0);
        // Long ROWS leave few POCKETS, or one alone, or none; short ones many.
        int numbers = random.nextInt(2) == 0 ? random.nextInt(6) : random.nextInt(6) == 0 ? random.nextInt(17) : 6 + random.nextInt(7);
        int start = random.nextInt(Math.max(1, model.count(1)));
        boolean isSo = model.count(1) > 0 && random.nextInt(4) > 0;
        for (int hour = 0; hour < numbers; hour++) {
            int law = isSo && hour < 12 ? model.at(start, hour, 0) : random.nextInt(laws + 2) - 1;
            both("row", law < 0 ? 99 : law);
        }
        both("had", 0);
        both("feel", random.nextInt(2));
    }

    private int argument(char kind) {
        if (random.nextInt(40) == 0) return ODD[random.nextInt(ODD.length)];
        switch (kind) {
            case 'p':
                return random.nextInt(model.count(1) + 1);
            case 'l':
                return random.nextInt(20) == 0 ? -1 : random.nextInt(model.count(0) + 1);
            case 't':
                return random.nextInt(9);
            case 'h':
                return random.nextInt(13);
            case 'w':
                return random.nextInt(10) == 0 ? random.nextInt(5) : random.nextInt(2);
            case 'k':
                return random.nextInt(random.nextInt(10) == 0 ? 7 : 6);
            case 'f':
                return random.nextInt(random.nextInt(10) == 0 ? 11 : 10);
            case 'T':
                return random.nextInt(10) == 0 ? random.nextInt(100) : 10 * thing() + thing();
            case 's':
                return random.nextInt(256);
            case 'S':
                return random.nextInt(1 << model.count(0)) + (random.nextInt(20) == 0 ? 1 << model.count(0) : 0);
            case 'o':
                return 2 + random.nextInt(19);
            case 'n':
                return random.nextInt(62);
            case 'N':
                return random.nextInt(22);
            case 'z':
                return random.nextInt();
            case 'r':
                return random.nextInt(12);
            case 'c':
                return random.nextInt(19) - 1;
            default:
                return random.nextInt(256);
        }
    }

    private void both(String name, int... args) throws ReflectiveOperationException {
        calls++;
        run.append(name).append(Arrays.toString(args)).append(' ');
        long want = answer(Model.class, model, name, args);
        long got = answer(SearchedAtTheGate.class, gate, name, args);
        Check.due(got == want ? name : run.toString(), got, want);
    }

    private static long answer(Class<?> face, Object object, String name, int[] args) throws ReflectiveOperationException {
        Object[] boxed = Arrays.stream(args).boxed().toArray();
        Class<?>[] types = new Class<?>[args.length];
        Arrays.fill(types, int.class);
        return ((Number) face.getMethod(name, types).invoke(object, boxed)).longValue();
    }
}
