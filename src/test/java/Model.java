import java.math.BigInteger;
import java.util.ArrayDeque;
import java.util.ArrayList;
import java.util.Arrays;
import java.util.Collections;
import java.util.Comparator;
import java.util.HashMap;
import java.util.HashSet;
import java.util.LinkedHashSet;
import java.util.List;
import java.util.Map;
import java.util.Set;
import java.util.TreeSet;
import java.util.function.Predicate;
import java.util.function.ToIntFunction;

/** The document told once more, slowly and with sets, to hold the class against. */
public final class Model {
    private static final class State {
        List<int[]> laws = new ArrayList<>();
        List<TreeSet<Integer>> people = new ArrayList<>();
        TreeSet<Integer> tray = new TreeSet<>();
        int day = 0;

        State copy() {
            State s = new State();
            for (int[] law : laws) s.laws.add(law.clone());
            for (TreeSet<Integer> one : people) s.people.add(new TreeSet<>(one));
            s.tray.addAll(tray);
            s.day = day;
            return s;
        }
    }

    private static final class Day {
        List<Integer> law = new ArrayList<>();
        List<TreeSet<Integer>> behind = new ArrayList<>();

        Set<Integer> laws() {
            Set<Integer> all = new TreeSet<>(law);
            all.remove(-9);
            return all;
        }

        TreeSet<Integer> end() {
            return behind.get(11);
        }

        int count() {
            return laws().size();
        }
    }

    private State s = new State();
    private State image = null;
    private final ArrayDeque<State> past = new ArrayDeque<>();
    private String letters = "";
    private final List<Integer> row = new ArrayList<>();
    private final Map<Integer, Integer> refused = new HashMap<>();

    private int no(int number) {
        refused.merge(number, 1, Integer::sum);
        return number;
    }

    private long noLong(int number) {
        return 4000000000000000000L - no(number);
    }

    private static TreeSet<Integer> set(int bits) {
        TreeSet<Integer> all = new TreeSet<>();
        for (int i = 0; i < 31; i++) if ((bits >> i & 1) == 1) all.add(i);
        return all;
    }

    private static int bits(Iterable<Integer> all) {
        int bits = 0;
        for (int i : all) bits |= 1 << i;
        return bits;
    }

    private static TreeSet<Integer> minus(Set<Integer> a, Set<Integer> b) {
        TreeSet<Integer> c = new TreeSet<>(a);
        c.removeAll(b);
        return c;
    }

    private static TreeSet<Integer> plus(Set<Integer> a, Set<Integer> b) {
        TreeSet<Integer> c = new TreeSet<>(a);
        c.addAll(b);
        return c;
    }

    private static List<TreeSet<Integer>> subsets(Set<Integer> of) {
        List<TreeSet<Integer>> all = new ArrayList<>();
        for (int b = 0; b < 256; b++) if (of.containsAll(set(b))) all.add(set(b));
        return all;
    }

    private static List<TreeSet<Integer>> allPockets() {
        return subsets(set(255));
    }

    /** Fewest first, then least. */
    private static int fewest(Set<Integer> of, Predicate<TreeSet<Integer>> good) {
        List<TreeSet<Integer>> all = subsets(of);
        all.sort(Comparator.<TreeSet<Integer>>comparingInt(Set::size).thenComparingInt(Model::bits));
        for (TreeSet<Integer> one : all) if (good.test(one)) return bits(one);
        return -9;
    }

    private static boolean holds(int[] law, int hour, Set<Integer> has, Set<Integer> tray) {
        boolean late = hour >= law[1];
        boolean wanted = has.contains(law[2]);
        boolean either = wanted || has.contains(law[3]);
        return late && new boolean[] {wanted, wanted, either, !wanted, wanted && hour % 2 == 0, either && !tray.isEmpty()}[law[0]];
    }

    private static void apply(int[] law, Set<Integer> has, Set<Integer> tray) {
        int w = law[2];
        int g = law[3];
        if (law[0] == 0) {
            has.remove(w);
            has.add(g);
        } else if (law[0] == 1 || law[0] == 3) {
            has.add(g);
        } else if (law[0] == 2) {
            if (has.contains(w) && has.contains(g)) {
                has.remove(g);
            } else if (has.contains(w)) {
                has.remove(w);
                has.add(g);
            } else {
                has.remove(g);
                has.add(w);
            }
        } else if (law[0] == 4) {
            has.add(g);
            has.remove(law[1]);
        } else {
            has.addAll(tray);
        }
    }

    private static Day go(List<int[]> laws, Set<Integer> tray, Set<Integer> start, Set<Integer> never) {
        Day day = new Day();
        TreeSet<Integer> has = new TreeSet<>(start);
        Set<Integer> over = new HashSet<>(never);
        for (int hour = 0; hour < 12; hour++) {
            int did = -9;
            for (int law = 0; law < laws.size() && did < 0; law++) {
                if (!over.contains(law) && holds(laws.get(law), hour, has, tray)) did = law;
            }
            if (did >= 0) {
                apply(laws.get(did), has, tray);
                over.add(did);
            }
            day.law.add(did);
            day.behind.add(new TreeSet<>(has));
        }
        return day;
    }

    private Day go(Set<Integer> start) {
        return go(s.laws, s.tray, start, Set.of());
    }

    private Day of(int person) {
        return go(s.people.get(person));
    }

    private boolean noOne(int person) {
        return person < 0 || person >= s.people.size();
    }

    private boolean noLaw(int law) {
        return law < 0 || law >= s.laws.size();
    }

    private static boolean noThing(int thing) {
        return thing < 0 || thing > 7;
    }

    private static boolean not(int what, int last) {
        return what < 0 || what > last;
    }

    private void keep() {
        past.push(s.copy());
        if (past.size() > 8) past.removeLast();
    }

    public int feed(int letter) {
        if (letter < 0) return no(-4);
        if (letter > 255 || letters.length() == 96) return no(-6);
        letters += (char) letter;
        return letters.length();
    }

    public int mill() {
        String text = letters;
        letters = "";
        String forms = "(l[0-9]{4};|p[0-9]{3};|[tb][0-9]{2};|[xd];)*";
        String whole = text.replaceAll("^" + forms, "");
        if (!whole.isEmpty() || text.isEmpty()) {
            int place = text.length() - whole.length();
            // Letter by letter, as long as some statement begins so.
            String part = "";
            for (char c : whole.toCharArray()) {
                part += c;
                if (!part.matches("l[0-9]{0,4}|p[0-9]{0,3}|[tb][0-9]{0,2}|[xd]")) return -1000 - place;
                place++;
            }
            return -1000 - place;
        }
        State old = s.copy();
        int place = 0;
        int count = 0;
        for (String statement : text.split(";")) {
            if (!comes(statement)) {
                s = old;
                return -2000 - place;
            }
            count++;
            place += statement.length() + 1;
        }
        past.clear();
        return count;
    }

    private boolean comes(String statement) {
        int[] d = statement.substring(1).chars().map(c -> c - '0').toArray();
        switch (statement.charAt(0)) {
            case 'l':
                if (d[0] > 5 || d[2] > 7 || d[3] > 7 || s.laws.size() == 10) return false;
                s.laws.add(d);
                return true;
            case 'p':
                int has = Integer.parseInt(statement.substring(1));
                if (has > 255 || s.people.size() == 6) return false;
                s.people.add(set(has));
                return true;
            case 't':
                if (noOne(d[0]) || !s.people.get(d[0]).remove(d[1])) return false;
                s.tray.add(d[1]);
                return true;
            case 'b':
                if (noOne(d[0]) || d[1] > 7) return false;
                s.people.get(d[0]).add(d[1]);
                s.tray.remove(d[1]);
                return true;
            case 'x':
                s.tray.clear();
                return true;
            default:
                if (s.day == 999) return false;
                pass();
                return true;
        }
    }

    private int pass() {
        int done = together(s.people);
        s.people.replaceAll(one -> go(one).end());
        s.day++;
        return done;
    }

    private int together(List<? extends Set<Integer>> people) {
        int done = 0;
        for (Set<Integer> one : people) done += go(one).count();
        return done;
    }

    public int lawOf(int law, int what) {
        return noLaw(law) ? no(-1) : not(what, 3) ? no(-2) : s.laws.get(law)[what];
    }

    public int pockets(int person) {
        return noOne(person) ? no(-1) : bits(s.people.get(person));
    }

    public int law(int kind, int figure, int things) {
        if (not(kind, 5)) return no(-2);
        if (figure < 0 || things < 0) return no(-4);
        if (figure > 9 || things / 10 > 7 || things % 10 > 7 || s.laws.size() == 10) return no(-6);
        s.laws.add(new int[] {kind, figure, things / 10, things % 10});
        past.clear();
        return s.laws.size() - 1;
    }

    public int person(int pockets) {
        if (pockets < 0) return no(-4);
        if (pockets > 255 || s.people.size() == 6) return no(-6);
        s.people.add(set(pockets));
        past.clear();
        return s.people.size() - 1;
    }

    public int takes(int person, int thing) {
        if (noOne(person) || noThing(thing)) return no(-1);
        if (!s.people.get(person).contains(thing)) return no(-3);
        keep();
        s.people.get(person).remove(thing);
        s.tray.add(thing);
        return bits(s.people.get(person));
    }

    public int brings(int person, int thing) {
        if (noOne(person) || noThing(thing)) return no(-1);
        keep();
        s.people.get(person).add(thing);
        s.tray.remove(thing);
        return bits(s.people.get(person));
    }

    public int turn(int law, int kind, int figure) {
        if (noLaw(law)) return no(-1);
        if (not(kind, 5)) return no(-2);
        if (figure < 0) return no(-4);
        if (figure > 9) return no(-6);
        keep();
        int[] l = s.laws.get(law);
        int before = 10 * l[0] + l[1];
        l[0] = kind;
        l[1] = figure;
        return before;
    }

    public int clears() {
        int lay = bits(s.tray);
        s.tray.clear();
        past.clear();
        return lay;
    }

    public int day() {
        if (s.day == 999) return no(-6);
        keep();
        return pass();
    }

    public int back() {
        if (past.isEmpty()) return no(-3);
        s = past.pop();
        return past.size();
    }

    public int at(int person, int hour, int what) {
        if (noOne(person) || not(hour, 11)) return no(-1);
        if (not(what, 1)) return no(-2);
        return what == 0 ? of(person).law.get(hour) : bits(of(person).behind.get(hour));
    }

    public int done(int person, int what) {
        if (noOne(person)) return no(-1);
        if (not(what, 3)) return no(-2);
        Day day = of(person);
        Set<Integer> has = s.people.get(person);
        return new int[] {bits(day.laws()), day.count(), bits(minus(has, day.end())), bits(minus(day.end(), has))}[what];
    }

    public int when(int person, int law) {
        if (noOne(person) || noLaw(law)) return no(-1);
        int hour = of(person).law.indexOf(law);
        return hour < 0 ? -9 : hour;
    }

    public int instead(int person, int set, int what) {
        if (noOne(person)) return no(-1);
        if (set < 0) return no(-4);
        if (set > 255) return no(-6);
        if (not(what, 1)) return no(-2);
        Set<Integer> then = go(minus(s.people.get(person), set(set))).laws();
        return bits(what == 0 ? then : minus(then, of(person).laws()));
    }

    public int stopped(int person, int law) {
        if (noOne(person) || noLaw(law)) return no(-1);
        Set<Integer> has = s.people.get(person);
        return fewest(has, taken -> !go(minus(has, taken)).laws().contains(law));
    }

    public int allStopped(int person, int set) {
        if (noOne(person)) return no(-1);
        if (set < 0) return no(-4);
        for (int law : set(set)) if (noLaw(law)) return no(-6);
        Set<Integer> has = s.people.get(person);
        return fewest(has, taken -> Collections.disjoint(go(minus(has, taken)).laws(), set(set)));
    }

    public int agrees(int person, int what) {
        if (noOne(person)) return no(-1);
        if (not(what, 1)) return no(-2);
        Set<Integer> has = s.people.get(person);
        Predicate<TreeSet<Integer>> good = taken -> go(minus(has, taken)).end().containsAll(minus(has, taken));
        return what == 0 ? (int) subsets(has).stream().filter(good).count() : fewest(has, good);
    }

    public int bring(int person, int law) {
        if (noOne(person) || noLaw(law)) return no(-1);
        Set<Integer> has = s.people.get(person);
        return fewest(minus(set(255), has), more -> go(plus(has, more)).laws().contains(law));
    }

    public int empty(int what) {
        if (not(what, 2)) return no(-2);
        if (what == 0) return bits(go(Set.of()).laws());
        int most = allPockets().stream().mapToInt(p -> go(p).count()).max().getAsInt();
        return what == 2 ? most : firstOf(allPockets(), p -> go(p).count() == most);
    }

    private static int firstOf(List<TreeSet<Integer>> all, Predicate<TreeSet<Integer>> good) {
        for (TreeSet<Integer> one : all) if (good.test(one)) return bits(one);
        return -9;
    }

    private boolean badRow() {
        return row.size() > 12 || row.stream().anyMatch(v -> v != 99 && noLaw(v));
    }

    private boolean fits(Day day) {
        for (int i = 0; i < row.size(); i++) {
            if (!row.get(i).equals(day.law.get(i) == -9 ? 99 : day.law.get(i))) return false;
        }
        return true;
    }

    private List<TreeSet<Integer>> guesses() {
        List<TreeSet<Integer>> all = allPockets();
        all.removeIf(p -> !fits(go(p)));
        return all;
    }

    public int had(int what) {
        if (not(what, 1)) return no(-2);
        if (badRow()) return no(-3);
        return what == 0 ? guesses().size() : firstOf(guesses(), p -> true);
    }

    private static long part(long above, long below, int part) {
        if (below == 0) return part;
        BigInteger g = BigInteger.valueOf(above).gcd(BigInteger.valueOf(below));
        return (part == 0 ? above : below) / g.longValue();
    }

    public long inIt(int thing, int part) {
        if (noThing(thing)) return noLong(-1);
        if (not(part, 1)) return noLong(-2);
        if (badRow()) return noLong(-3);
        List<TreeSet<Integer>> all = guesses();
        return part(all.stream().filter(p -> p.contains(thing)).count(), all.size(), part);
    }

    public int feel(int what) {
        if (not(what, 1)) return no(-2);
        if (badRow()) return no(-3);
        List<TreeSet<Integer>> all = guesses();
        if (all.isEmpty()) return -9;
        ToIntFunction<Integer> lesser = t -> {
            int with = (int) all.stream().filter(p -> p.contains(t)).count();
            return Math.min(with, all.size() - with);
        };
        int best = Collections.max(List.of(7, 6, 5, 4, 3, 2, 1, 0), Comparator.comparingInt(lesser).thenComparingInt(t -> -t));
        return what == 0 ? best : lesser.applyAsInt(best);
    }

    public int which(int person, int law, int what) {
        if (noOne(person) || noLaw(law)) return no(-1);
        if (not(what, 2)) return no(-2);
        if (badRow()) return no(-3);
        int found = 0;
        for (int value = 0; value < new int[] {6, 10, 8}[what]; value++) {
            List<int[]> laws = s.copy().laws;
            laws.get(law)[what] = value;
            if (fits(go(laws, s.tray, s.people.get(person), Set.of()))) found |= 1 << value;
        }
        return found;
    }

    private TreeSet<Integer> spurs(int person) {
        TreeSet<Integer> all = new TreeSet<>(s.tray);
        all.removeIf(t -> go(plus(s.people.get(person), Set.of(t))).count() <= of(person).count());
        return all;
    }

    private int mostServed(int person, Set<Integer> left) {
        if (person == s.people.size()) return 0;
        int most = mostServed(person + 1, left);
        for (int thing : spurs(person)) {
            if (left.contains(thing)) most = Math.max(most, 1 + mostServed(person + 1, minus(left, Set.of(thing))));
        }
        return most;
    }

    public int tray(int what) {
        return not(what, 1) ? no(-2) : what == 0 ? bits(s.tray) : mostServed(0, s.tray);
    }

    public int onTray(int person) {
        return noOne(person) ? no(-1) : bits(spurs(person));
    }

    public int guard(int person, int what) {
        if (noOne(person)) return no(-1);
        if (not(what, 1)) return no(-2);
        Set<Integer> has = s.people.get(person);
        int best = -1;
        int fewest = 99;
        for (int taken : plus(has, Set.of(8))) {
            Set<Integer> left = minus(has, Set.of(taken));
            int most = 0;
            for (int more = 0; more <= 8; more++) {
                if (more == taken && more < 8) continue;
                most = Math.max(most, go(more == 8 ? left : plus(left, Set.of(more))).count());
            }
            if (most < fewest) {
                fewest = most;
                best = taken;
            }
        }
        return what == 0 ? fewest : best;
    }

    public int rounds() {
        LinkedHashSet<List<TreeSet<Integer>>> seen = new LinkedHashSet<>();
        List<TreeSet<Integer>> people = s.copy().people;
        seen.add(people);
        for (int n = 1; n <= 60; n++) {
            List<TreeSet<Integer>> then = new ArrayList<>();
            for (TreeSet<Integer> one : people) then.add(go(one).end());
            people = then;
            if (!seen.add(people)) return n;
        }
        return -9;
    }

    private long cases(List<Integer> has, Set<Integer> left, int law, int t) {
        if (has.isEmpty()) return go(left).laws().contains(law) ? 1 : 0;
        List<Integer> rest = has.subList(1, has.size());
        return cases(rest, left, law, t) + (t - 1) * cases(rest, plus(left, Set.of(has.get(0))), law, t);
    }

    public long chance(int person, int law, int t, int part) {
        if (noOne(person) || noLaw(law)) return noLong(-1);
        if (t < 2) return noLong(-4);
        if (t > 20) return noLong(-6);
        if (not(part, 1)) return noLong(-2);
        List<Integer> has = new ArrayList<>(s.people.get(person));
        return part(cases(has, Set.of(), law, t), BigInteger.valueOf(t).pow(has.size()).longValue(), part);
    }

    public int idle(int person, int what) {
        if (noOne(person)) return no(-1);
        if (not(what, 1)) return no(-2);
        List<Integer> law = of(person).law;
        return what == 0 ? Collections.frequency(law, -9) : law.indexOf(-9);
    }

    public int never(int what) {
        if (not(what, 1)) return no(-2);
        int found = 0;
        for (int law = 0; law < s.laws.size(); law++) {
            int n = 0;
            for (int p = 0; p < s.people.size(); p++) if (of(p).laws().contains(law)) n++;
            if (what == 0 ? n == 0 : n == s.people.size() && n > 0) found |= 1 << law;
        }
        return found;
    }

    public int alike(int what) {
        if (not(what, 1)) return no(-2);
        int best = -9;
        int most = -9;
        for (int two = 0; two < 60; two++) {
            int a = two / 10;
            int b = two % 10;
            if (a >= b || noOne(b)) continue;
            Set<Integer> both = of(a).laws();
            both.retainAll(of(b).laws());
            if (both.size() > most) {
                most = both.size();
                best = two;
            }
        }
        return what == 0 ? best : most;
    }

    public int dropped(int person) {
        if (noOne(person)) return no(-1);
        List<Integer> laws = new ArrayList<>(of(person).laws());
        if (laws.isEmpty()) return -9;
        return Collections.min(laws, Comparator.comparingInt(l -> without(person, l).count()));
    }

    private Day without(int person, int law) {
        return go(s.laws, s.tray, s.people.get(person), Set.of(law));
    }

    public int key(int what) {
        if (not(what, 1)) return no(-2);
        List<Integer> sums = new ArrayList<>();
        for (int t = 0; t < 8; t++) {
            List<Set<Integer>> people = new ArrayList<>();
            for (Set<Integer> one : s.people) people.add(minus(one, Set.of(t)));
            sums.add(together(people));
        }
        return what == 0 ? sums.indexOf(Collections.min(sums)) : Collections.min(sums);
    }

    public int latest(int person, int law) {
        if (noOne(person) || noLaw(law)) return no(-1);
        int latest = -9;
        for (int figure = 0; figure < 10; figure++) {
            List<int[]> laws = s.copy().laws;
            laws.get(law)[1] = figure;
            if (go(laws, s.tray, s.people.get(person), Set.of()).laws().contains(law)) latest = figure;
        }
        return latest;
    }

    public int needed(int person, int law) {
        if (noOne(person) || noLaw(law)) return no(-1);
        if (!of(person).laws().contains(law)) return 0;
        int found = 0;
        for (int other = 0; other < s.laws.size(); other++) {
            if (other != law && !without(person, other).laws().contains(law)) found |= 1 << other;
        }
        return found;
    }

    public int trade(int one, int other, int what) {
        if (noOne(one) || noOne(other) || one == other) return no(-1);
        if (not(what, 1)) return no(-2);
        TreeSet<Integer> a = s.people.get(one);
        TreeSet<Integer> b = s.people.get(other);
        int most = together(List.of(a, b));
        int things = 88;
        for (int t = 0; t < 78; t++) {
            if (!a.contains(t / 10) || !b.contains(t % 10)) continue;
            Set<Integer> x = Set.of(t / 10);
            Set<Integer> y = Set.of(t % 10);
            int sum = together(List.of(plus(minus(a, x), y), plus(minus(b, y), x)));
            if (sum > most) {
                most = sum;
                things = t;
            }
        }
        return what == 0 ? most : things;
    }

    public int earliest(int law, int what) {
        if (noLaw(law)) return no(-1);
        if (not(what, 1)) return no(-2);
        for (int h = 0; h < 12; h++) {
            int hour = h;
            int least = firstOf(allPockets(), p -> go(p).law.get(hour) == law);
            if (least >= 0) return what == 0 ? hour : least;
        }
        return -9;
    }

    public int safe(int person) {
        if (noOne(person)) return no(-1);
        TreeSet<Integer> all = new TreeSet<>(s.people.get(person));
        all.removeIf(t -> !go(minus(s.people.get(person), Set.of(t))).law.equals(of(person).law));
        return bits(all);
    }

    /** Over all orders of what is left, what the thing adds as it comes. */
    private long added(Set<Integer> in, Set<Integer> left, int thing, Map<Set<Integer>, Integer> memo) {
        long sum = 0;
        for (int next : left) {
            if (next == thing) {
                int more = memo.computeIfAbsent(plus(in, Set.of(thing)), p -> go(p).count())
                    - memo.computeIfAbsent(in, p -> go(p).count());
                sum += more * orders(left.size() - 1);
            } else {
                sum += added(plus(in, Set.of(next)), minus(left, Set.of(next)), thing, memo);
            }
        }
        return sum;
    }

    private static long orders(int n) {
        return n < 2 ? 1 : n * orders(n - 1);
    }

    public long adds(int person, int thing, int part) {
        if (noOne(person) || noThing(thing)) return noLong(-1);
        if (not(part, 1)) return noLong(-2);
        Set<Integer> has = s.people.get(person);
        if (!has.contains(thing)) return noLong(-3);
        return part(added(new TreeSet<>(), has, thing, new HashMap<>()), orders(has.size()), part);
    }

    public int ways(int law, int what) {
        if (noLaw(law)) return no(-1);
        if (not(what, 1)) return no(-2);
        Predicate<TreeSet<Integer>> good = p -> go(p).laws().contains(law);
        return what == 0 ? (int) allPockets().stream().filter(good).count() : fewest(set(255), good);
    }

    public int behind(int person, int n) {
        if (noOne(person)) return no(-1);
        if (n < 0) return no(-4);
        if (n > 60) return no(-6);
        TreeSet<Integer> has = s.people.get(person);
        for (int i = 0; i < n; i++) has = go(has).end();
        return bits(has);
    }

    public int give(int one, int other) {
        if (noOne(one) || noOne(other) || one == other) return no(-1);
        Set<Integer> a = s.people.get(one);
        Set<Integer> b = s.people.get(other);
        int most = together(List.of(a, b));
        int best = -9;
        for (int t : a) {
            int sum = together(List.of(minus(a, Set.of(t)), plus(b, Set.of(t))));
            if (sum > most) {
                most = sum;
                best = t;
            }
        }
        return best;
    }

    public int ever(int person, int n) {
        if (noOne(person)) return no(-1);
        if (n < 1) return no(-4);
        if (n > 60) return no(-6);
        Set<Integer> found = new TreeSet<>();
        TreeSet<Integer> has = s.people.get(person);
        for (int i = 0; i < n; i++) {
            found.addAll(go(has).laws());
            has = go(has).end();
        }
        return bits(found);
    }

    public int row(int v) {
        if (v < 0) return no(-4);
        if (v > 99 || row.size() == 16) return no(-6);
        row.add(v);
        return row.size();
    }

    public int judge(int person) {
        if (noOne(person)) return no(-1);
        List<Integer> told = new ArrayList<>(row);
        row.clear();
        Day day = of(person);
        for (int i = 0; i < told.size(); i++) {
            if (i > 11) return i;
            int law = day.law.get(i);
            if (told.get(i) != (law == -9 ? 99 : law)) return i;
        }
        return -9;
    }

    public int clear() {
        int had = row.size();
        row.clear();
        return had;
    }

    public int lots(int n, int z, int what) {
        if (n < 1) return no(-4);
        if (n > 20) return no(-6);
        if (not(what, 1)) return no(-2);
        long seed = z;
        int done = 0;
        int taken = 0;
        for (int i = 0; i < n; i++) {
            for (TreeSet<Integer> one : s.people) {
                seed = (seed * 1103515245L + 12345L) & 0xFFFFFFFFL;
                int thing = (int) ((seed & 0x7FFFFFFFL) / 65536 % 8);
                if (one.contains(thing)) taken++;
                done += go(minus(one, Set.of(thing))).count();
            }
        }
        return what == 0 ? done : taken;
    }

    public int image() {
        image = s.copy();
        return s.day;
    }

    public int restore() {
        if (image == null) return no(-3);
        s = image.copy();
        past.clear();
        return s.day;
    }

    public int count(int what) {
        if (what >= 11 && what <= 16) return refused.getOrDefault(10 - what, 0);
        int held = s.people.stream().mapToInt(Set::size).sum();
        List<Integer> all = Arrays.asList(s.laws.size(), s.people.size(), s.day, s.tray.size(), held,
            together(s.people), letters.length(), row.size(), past.size());
        return what < 0 || what > 8 ? -9 : all.get(what);
    }
}
