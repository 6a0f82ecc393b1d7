/** Counts and prints the answers that are not as due, and tells worlds in a few words. */
final class Check {
    private static final long REFUSED = 4000000000000000000L;
    private static String about = "";
    private static int calls = 0;
    private static int wrong = 0;

    private Check() {
    }

    /** What is printed ahead of an answer that is not as due. */
    static void about(String test) {
        about = test + ": ";
    }

    static int calls() {
        return calls;
    }

    static void due(String what, long got, long want) {
        calls++;
        if (got == want) return;
        wrong++;
        System.out.println(about + what + " answered " + got + ", due is " + want);
    }

    /** What a call with a long answers when it refuses with this number. */
    static long refused(int number) {
        return REFUSED - number;
    }

    static void fraction(String what, long above, long below, long wantAbove, long wantBelow) {
        due(what + " above the line", above, wantAbove);
        due(what + " below the line", below, wantBelow);
    }

    static int tell(SearchedAtTheGate gate, String mill) {
        for (char letter : mill.toCharArray()) gate.feed(letter);
        return gate.mill();
    }

    /** A new object with a mill told, which has to be without fault. */
    static SearchedAtTheGate gate(String mill) {
        SearchedAtTheGate gate = new SearchedAtTheGate();
        if (mill.isEmpty()) return gate;
        int statements = (int) mill.chars().filter(c -> c == ';').count();
        due("the mill " + mill, tell(gate, mill), statements);
        return gate;
    }

    static void row(SearchedAtTheGate gate, int... numbers) {
        gate.clear();
        for (int number : numbers) gate.row(number);
    }

    static void end() {
        System.out.println(calls + " answers, " + wrong + " not as due");
        if (wrong != 0) System.exit(1);
    }
}
