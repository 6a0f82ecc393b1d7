import java.util.Arrays;

/** People searched at the gate: what they do in a day by laws of kinds, and what would be otherwise. */
public final class SearchedAtTheGate {
    private static final int NONE = -9;
    private static final int NO_FAULT = -1;
    private static final int NOBODY = -1;
    private static final int OTHER = -2;
    private static final int STATE = -3;
    private static final int BELOW = -4;
    private static final int ROOM = -6;
    private static final long REFUSED_LONG = 4000000000000000000L;

    private static final int THINGS = 8;
    private static final int ALL_THINGS = 255;
    private static final int MOST_LAWS = 10;
    private static final int MOST_PEOPLE = 6;
    private static final int HOURS = 12;
    private static final int LAST_DAY = 999;

    private static final int LAW = 0;
    private static final int CHAIN = 1;
    private static final int EITHER = 2;
    private static final int WITHOUT = 3;
    private static final int TEMPER = 4;
    private static final int DUST = 5;
    private static final int LAST_KIND = 5;
    private static final int LAST_FIGURE = 9;

    private static final int KIND = 0;
    private static final int FIGURE = 1;
    private static final int WANTED = 2;
    private static final int GIVEN = 3;
    private static final int PARTS = 4;

    private static final int IDLE_NUMBER = 99;

    private final World now;
    private final World imaged;
    private boolean hasImage;
    private final Past past;
    private final Letters letters;
    private final Told told;
    private final int[] refusals;
    private final Course course;
    private final Guess guess;
    private final Sets sets;
    private final Alone alone;
    private final Folk folk;

    public SearchedAtTheGate() {
        now = new World();
        imaged = new World();
        past = new Past();
        letters = new Letters();
        told = new Told();
        refusals = new int[7];
        course = new Course();
        guess = new Guess();
        sets = new Sets();
        alone = new Alone();
        folk = new Folk();
    }

    // ---- telling a mill, and the world by hand ----

    public int feed(int letter) {
        if (letter < 0) return refuse(BELOW);
        if (letter > 255 || letters.isFull()) return refuse(ROOM);
        return letters.put(letter);
    }

    public int mill() {
        int form = letters.faultOfForm();
        int sense = form == NO_FAULT ? letters.faultOfSense(now) : NO_FAULT;
        letters.wipe();
        if (form != NO_FAULT) return -1000 - form;
        if (sense != NO_FAULT) return -2000 - sense;
        letters.handOver(now);
        past.forget();
        return letters.statementsTold();
    }

    public int lawOf(int law, int what) {
        if (!now.isLaw(law)) return refuse(NOBODY);
        if (what < KIND || what > GIVEN) return refuse(OTHER);
        return now.lawPart(law, what);
    }

    public int pockets(int person) {
        if (!now.isPerson(person)) return refuse(NOBODY);
        return now.pocketsOf(person);
    }

    public int law(int kind, int figure, int things) {
        if (kind < 0 || kind > LAST_KIND) return refuse(OTHER);
        if (figure < 0 || things < 0) return refuse(BELOW);
        int wanted = things / 10;
        int given = things % 10;
        if (figure > LAST_FIGURE || !isThing(wanted) || !isThing(given)) return refuse(ROOM);
        if (!now.hasLawRoom()) return refuse(ROOM);
        past.forget();
        return now.addLaw(kind, figure, wanted, given);
    }

    public int person(int pockets) {
        if (pockets < 0) return refuse(BELOW);
        if (pockets > ALL_THINGS || !now.hasPersonRoom()) return refuse(ROOM);
        past.forget();
        return now.addPerson(pockets);
    }

    public int takes(int person, int thing) {
        if (!now.isPerson(person) || !isThing(thing)) return refuse(NOBODY);
        if (!hasThing(now.pocketsOf(person), thing)) return refuse(STATE);
        past.keep(now);
        return now.takeOut(person, thing);
    }

    public int brings(int person, int thing) {
        if (!now.isPerson(person) || !isThing(thing)) return refuse(NOBODY);
        past.keep(now);
        return now.bringIn(person, thing);
    }

    public int turn(int law, int kind, int figure) {
        if (!now.isLaw(law)) return refuse(NOBODY);
        if (kind < 0 || kind > LAST_KIND) return refuse(OTHER);
        if (figure < 0) return refuse(BELOW);
        if (figure > LAST_FIGURE) return refuse(ROOM);
        int before = 10 * now.lawPart(law, KIND) + now.lawPart(law, FIGURE);
        past.keep(now);
        now.setLawPart(law, KIND, kind);
        now.setLawPart(law, FIGURE, figure);
        return before;
    }

    public int clears() {
        past.forget();
        return now.emptyTray();
    }

    public int day() {
        if (now.dayNumber() >= LAST_DAY) return refuse(ROOM);
        past.keep(now);
        return now.passDay(course);
    }

    public int back() {
        if (past.size() == 0) return refuse(STATE);
        return past.undo(now);
    }

    // ---- a day of one ----

    public int at(int person, int hour, int what) {
        if (!now.isPerson(person) || hour < 0 || hour >= HOURS) return refuse(NOBODY);
        if (isNot0or1(what)) return refuse(OTHER);
        goThrough(person);
        return what == 0 ? course.lawIn(hour) : course.pocketsBehind(hour);
    }

    public int done(int person, int what) {
        if (!now.isPerson(person)) return refuse(NOBODY);
        if (what < 0 || what > 3) return refuse(OTHER);
        int before = now.pocketsOf(person);
        goThrough(person);
        switch (what) {
            case 0:
                return course.lawsDone();
            case 1:
                return Integer.bitCount(course.lawsDone());
            case 2:
                return before & ~course.pocketsAtEnd();
            default:
                return course.pocketsAtEnd() & ~before;
        }
    }

    public int when(int person, int law) {
        if (!now.isPerson(person) || !now.isLaw(law)) return refuse(NOBODY);
        goThrough(person);
        return course.hourOf(law);
    }

    public int instead(int person, int set, int what) {
        if (!now.isPerson(person)) return refuse(NOBODY);
        if (set < 0) return refuse(BELOW);
        if (set > ALL_THINGS) return refuse(ROOM);
        if (isNot0or1(what)) return refuse(OTHER);
        int pockets = now.pocketsOf(person);
        int then = course.run(now, pockets & ~set, 0);
        return what == 0 ? then : then & ~course.run(now, pockets, 0);
    }

    public int stopped(int person, int law) {
        if (!now.isPerson(person) || !now.isLaw(law)) return refuse(NOBODY);
        return sets.fewestTaken(now, now.pocketsOf(person), 1 << law);
    }

    public int allStopped(int person, int set) {
        if (!now.isPerson(person)) return refuse(NOBODY);
        if (set < 0) return refuse(BELOW);
        if (set > now.allLaws()) return refuse(ROOM);
        return sets.fewestTaken(now, now.pocketsOf(person), set);
    }

    public int agrees(int person, int what) {
        if (!now.isPerson(person)) return refuse(NOBODY);
        if (isNot0or1(what)) return refuse(OTHER);
        return sets.agreeing(now, now.pocketsOf(person), what);
    }

    public int bring(int person, int law) {
        if (!now.isPerson(person) || !now.isLaw(law)) return refuse(NOBODY);
        return sets.fewestBrought(now, now.pocketsOf(person), law);
    }

    public int empty(int what) {
        if (what < 0 || what > 2) return refuse(OTHER);
        if (what == 0) return course.run(now, 0, 0);
        int most = sets.busiestPockets(now);
        return what == 1 ? most : course.countDone(now, most);
    }

    // ---- what he had, by what he did ----

    public int had(int what) {
        if (isNot0or1(what)) return refuse(OTHER);
        if (!told.isOfLaws(now)) return refuse(STATE);
        guess.learn(now, told);
        return what == 0 ? guess.howMany() : guess.least();
    }

    public long inIt(int thing, int part) {
        if (!isThing(thing)) return refuseLong(NOBODY);
        if (isNot0or1(part)) return refuseLong(OTHER);
        if (!told.isOfLaws(now)) return refuseLong(STATE);
        guess.learn(now, told);
        return lowest(guess.howManyWith(thing), guess.howMany(), part);
    }

    public int feel(int what) {
        if (isNot0or1(what)) return refuse(OTHER);
        if (!told.isOfLaws(now)) return refuse(STATE);
        guess.learn(now, told);
        int thing = guess.evenestThing();
        if (thing == NONE) return NONE;
        return what == 0 ? thing : guess.lesserPart(thing);
    }

    public int which(int person, int law, int what) {
        if (!now.isPerson(person) || !now.isLaw(law)) return refuse(NOBODY);
        if (what < KIND || what > WANTED) return refuse(OTHER);
        if (!told.isOfLaws(now)) return refuse(STATE);
        return alone.fittingParts(now, now.pocketsOf(person), law, what, told);
    }

    // ---- the tray, guard and striker, rounds, chance ----

    public int tray(int what) {
        if (isNot0or1(what)) return refuse(OTHER);
        return what == 0 ? now.onTheTray() : folk.mostOwners(now);
    }

    public int onTray(int person) {
        if (!now.isPerson(person)) return refuse(NOBODY);
        return folk.spurs(now, now.pocketsOf(person));
    }

    public int guard(int person, int what) {
        if (!now.isPerson(person)) return refuse(NOBODY);
        if (isNot0or1(what)) return refuse(OTHER);
        return alone.guarded(now, now.pocketsOf(person), what);
    }

    public int rounds() {
        return folk.firstReturn(now);
    }

    public long chance(int person, int law, int t, int part) {
        if (!now.isPerson(person) || !now.isLaw(law)) return refuseLong(NOBODY);
        if (t < 2) return refuseLong(BELOW);
        if (t > 20) return refuseLong(ROOM);
        if (isNot0or1(part)) return refuseLong(OTHER);
        int pockets = now.pocketsOf(person);
        return lowest(sets.luckyCases(now, pockets, law, t), power(t, Integer.bitCount(pockets)), part);
    }

    // ---- III: looked at from beside ----

    public int idle(int person, int what) {
        if (!now.isPerson(person)) return refuse(NOBODY);
        if (isNot0or1(what)) return refuse(OTHER);
        goThrough(person);
        return what == 0 ? HOURS - Integer.bitCount(course.lawsDone()) : course.firstIdle();
    }

    public int never(int what) {
        if (isNot0or1(what)) return refuse(OTHER);
        return what == 0 ? now.allLaws() & ~folk.doneBySome(now) : folk.doneByAll(now);
    }

    public int alike(int what) {
        if (isNot0or1(what)) return refuse(OTHER);
        return folk.mostAlike(now, what);
    }

    public int dropped(int person) {
        if (!now.isPerson(person)) return refuse(NOBODY);
        return alone.dearestLaw(now, now.pocketsOf(person));
    }

    public int key(int what) {
        if (isNot0or1(what)) return refuse(OTHER);
        return folk.keyThing(now, what);
    }

    public int latest(int person, int law) {
        if (!now.isPerson(person) || !now.isLaw(law)) return refuse(NOBODY);
        return alone.latestFigure(now, now.pocketsOf(person), law);
    }

    // ---- IV: other laws, things, orders and days ----

    public int needed(int person, int law) {
        if (!now.isPerson(person) || !now.isLaw(law)) return refuse(NOBODY);
        return alone.lawsNeeded(now, now.pocketsOf(person), law);
    }

    public int trade(int one, int other, int what) {
        if (!now.isPerson(one) || !now.isPerson(other) || one == other) return refuse(NOBODY);
        if (isNot0or1(what)) return refuse(OTHER);
        return folk.bestTrade(now, now.pocketsOf(one), now.pocketsOf(other), what);
    }

    public int earliest(int law, int what) {
        if (!now.isLaw(law)) return refuse(NOBODY);
        if (isNot0or1(what)) return refuse(OTHER);
        return sets.earliestOf(now, law, what);
    }

    public int safe(int person) {
        if (!now.isPerson(person)) return refuse(NOBODY);
        return alone.idleThings(now, now.pocketsOf(person));
    }

    public long adds(int person, int thing, int part) {
        if (!now.isPerson(person) || !isThing(thing)) return refuseLong(NOBODY);
        if (isNot0or1(part)) return refuseLong(OTHER);
        int pockets = now.pocketsOf(person);
        if (!hasThing(pockets, thing)) return refuseLong(STATE);
        return lowest(sets.addedInOrders(now, pockets, thing), factorial(Integer.bitCount(pockets)), part);
    }

    public int ways(int law, int what) {
        if (!now.isLaw(law)) return refuse(NOBODY);
        if (isNot0or1(what)) return refuse(OTHER);
        return what == 0 ? sets.waysTo(now, law) : sets.fewestBrought(now, 0, law);
    }

    public int behind(int person, int n) {
        if (!now.isPerson(person)) return refuse(NOBODY);
        if (n < 0) return refuse(BELOW);
        if (n > 60) return refuse(ROOM);
        return alone.pocketsInDays(now, now.pocketsOf(person), n);
    }

    public int give(int one, int other) {
        if (!now.isPerson(one) || !now.isPerson(other) || one == other) return refuse(NOBODY);
        return folk.bestGift(now, now.pocketsOf(one), now.pocketsOf(other));
    }

    public int ever(int person, int n) {
        if (!now.isPerson(person)) return refuse(NOBODY);
        if (n < 1) return refuse(BELOW);
        if (n > 60) return refuse(ROOM);
        return alone.lawsInDays(now, now.pocketsOf(person), n);
    }

    // ---- the row, lots, the image, counts ----

    public int row(int v) {
        if (v < 0) return refuse(BELOW);
        if (v > IDLE_NUMBER || told.isFull()) return refuse(ROOM);
        return told.put(v);
    }

    public int judge(int person) {
        if (!now.isPerson(person)) return refuse(NOBODY);
        goThrough(person);
        int wrong = told.firstWrong(course);
        told.wipe();
        return wrong;
    }

    public int clear() {
        return told.wipe();
    }

    public int lots(int n, int z, int what) {
        if (n < 1) return refuse(BELOW);
        if (n > 20) return refuse(ROOM);
        if (isNot0or1(what)) return refuse(OTHER);
        return folk.drawn(now, n, z, what);
    }

    public int image() {
        imaged.copyFrom(now);
        hasImage = true;
        return now.dayNumber();
    }

    public int restore() {
        if (!hasImage) return refuse(STATE);
        now.copyFrom(imaged);
        past.forget();
        return now.dayNumber();
    }

    public int count(int what) {
        switch (what) {
            case 0:
                return now.lawCount();
            case 1:
                return now.peopleCount();
            case 2:
                return now.dayNumber();
            case 3:
                return Integer.bitCount(now.onTheTray());
            case 4:
                return now.thingsInPockets();
            case 5:
                return folk.doneTogether(now, 0);
            case 6:
                return letters.size();
            case 7:
                return told.size();
            case 8:
                return past.size();
            default:
                return what >= 11 && what <= 16 ? cell(refusals, what - 10) : NONE;
        }
    }

    private int refuse(int number) {
        put(refusals, -number, cell(refusals, -number) + 1);
        return number;
    }

    private long refuseLong(int number) {
        return REFUSED_LONG - refuse(number);
    }

    private void goThrough(int person) {
        course.run(now, now.pocketsOf(person), 0);
    }

    // ---- small helps for all classes here ----

    private static boolean isNot0or1(int what) {
        return what < 0 || what > 1;
    }

    private static boolean isThing(int thing) {
        return thing >= 0 && thing < THINGS;
    }

    /** The bit of a THING; of 8 and 9, which are none, no bit. */
    private static int thingBit(int thing) {
        return thing >= 0 && thing < THINGS ? 1 << thing : 0;
    }

    private static boolean hasThing(int pockets, int thing) {
        return thing >= 0 && thing < THINGS && (pockets & (1 << thing)) != 0;
    }

    /** Sets are looked at from the least on, so that one with as many THINGS does not replace it. */
    private static boolean isFewer(int set, int best) {
        return best == NONE || Integer.bitCount(set) < Integer.bitCount(best);
    }

    private static int cell(int[] cells, int place) {
        return cells != null && place >= 0 && place < cells.length ? cells[place] : 0;
    }

    private static void put(int[] cells, int place, int value) {
        if (cells != null && place >= 0 && place < cells.length) cells[place] = value;
    }

    private static void copyCells(int[] from, int[] to) {
        if (from == null || to == null) return;
        System.arraycopy(from, 0, to, 0, Math.min(from.length, to.length));
    }

    private static long power(long base, int times) {
        long product = 1;
        for (int i = 0; i < times; i++) product *= base;
        return product;
    }

    private static long factorial(int n) {
        long product = 1;
        for (int i = 2; i <= n; i++) product *= i;
        return product;
    }

    private static long commonDivisor(long one, long other) {
        long a = one;
        long b = other;
        // Euclid's steps on longs are fewer than 100.
        for (int step = 0; step < 100 && b != 0; step++) {
            long rest = a % b;
            a = b;
            b = rest;
        }
        return a;
    }

    private static long lowest(long above, long below, int part) {
        if (above == 0) return part == 0 ? 0 : 1;
        long divisor = commonDivisor(Math.abs(above), below);
        if (divisor == 0) return 0;
        return part == 0 ? above / divisor : below / divisor;
    }

    /** All that there is of I, but letters: LAWS, PEOPLE, THE TRAY, DAY. */
    private static final class World {
        private final int[] parts = new int[MOST_LAWS * PARTS];
        private final int[] pockets = new int[MOST_PEOPLE];
        private int laws;
        private int people;
        private int lying;
        private int dayNumber;

        void copyFrom(World other) {
            copyCells(other.parts, parts);
            copyCells(other.pockets, pockets);
            laws = other.laws;
            people = other.people;
            lying = other.lying;
            dayNumber = other.dayNumber;
        }

        boolean isLaw(int law) {
            return law >= 0 && law < laws;
        }

        boolean isPerson(int person) {
            return person >= 0 && person < people;
        }

        boolean hasLawRoom() {
            return laws < MOST_LAWS;
        }

        boolean hasPersonRoom() {
            return people < MOST_PEOPLE;
        }

        int lawCount() {
            return laws;
        }

        int allLaws() {
            return (1 << laws) - 1;
        }

        int peopleCount() {
            return people;
        }

        int dayNumber() {
            return dayNumber;
        }

        int onTheTray() {
            return lying;
        }

        int lawPart(int law, int part) {
            int place = law * PARTS + part;
            return place >= 0 && place < parts.length ? parts[place] : 0;
        }

        void setLawPart(int law, int part, int value) {
            put(parts, law * PARTS + part, value);
        }

        int pocketsOf(int person) {
            return cell(pockets, person);
        }

        int thingsInPockets() {
            int things = 0;
            for (int person = 0; person < people; person++) things += Integer.bitCount(pocketsOf(person));
            return things;
        }

        int addLaw(int kind, int figure, int wanted, int given) {
            int law = laws++;
            setLawPart(law, KIND, kind);
            setLawPart(law, FIGURE, figure);
            setLawPart(law, WANTED, wanted);
            setLawPart(law, GIVEN, given);
            return law;
        }

        int addPerson(int has) {
            int person = people++;
            put(pockets, person, has);
            return person;
        }

        int takeOut(int person, int thing) {
            int left = pocketsOf(person) & ~thingBit(thing);
            put(pockets, person, left);
            lying |= thingBit(thing);
            return left;
        }

        int bringIn(int person, int thing) {
            int has = pocketsOf(person) | thingBit(thing);
            put(pockets, person, has);
            lying &= ~thingBit(thing);
            return has;
        }

        int emptyTray() {
            int lay = lying;
            lying = 0;
            return lay;
        }

        int passDay(Course course) {
            int done = 0;
            for (int person = 0; person < people; person++) {
                done += Integer.bitCount(course.run(this, pocketsOf(person), 0));
                put(pockets, person, course.pocketsAtEnd());
            }
            dayNumber++;
            return done;
        }

        /** The first LAW, but those of the set, that holds in the hour for one who has these things. */
        int firstHolding(int hour, int has, int but) {
            for (int law = 0; law < laws; law++) {
                if ((but & (1 << law)) == 0 && holds(law, hour, has)) return law;
            }
            return NONE;
        }

        /** Asked most of all, so it reads the cells of the LAW by itself. */
        private boolean holds(int law, int hour, int has) {
            int first = law * PARTS;
            if (first < 0 || first + GIVEN >= parts.length || hour < parts[first + FIGURE]) return false;
            boolean wanted = (has & (1 << parts[first + WANTED])) != 0;
            boolean given = (has & (1 << parts[first + GIVEN])) != 0;
            switch (parts[first + KIND]) {
                case LAW:
                case CHAIN:
                    return wanted;
                case EITHER:
                    return wanted || given;
                case WITHOUT:
                    return !wanted;
                case TEMPER:
                    return wanted && hour % 2 == 0;
                case DUST:
                    return (wanted || given) && lying != 0;
                default:
                    return false;
            }
        }

        int pocketsAfter(int law, int has) {
            int wanted = thingBit(lawPart(law, WANTED));
            int given = thingBit(lawPart(law, GIVEN));
            switch (lawPart(law, KIND)) {
                case LAW:
                    return (has & ~wanted) | given;
                case CHAIN:
                case WITHOUT:
                    return has | given;
                case EITHER:
                    return eitherWay(has, wanted, given);
                case TEMPER:
                    return (has | given) & ~thingBit(lawPart(law, FIGURE));
                case DUST:
                    return has | lying;
                default:
                    return has;
            }
        }

        private static int eitherWay(int has, int wanted, int given) {
            boolean both = (has & wanted) != 0 && (has & given) != 0;
            return both ? has & ~given : has ^ (wanted | given);
        }
    }

    /** A DAY of one, gone through in mind: the world stays as it is. */
    private static final class Course {
        private final int[] laws = new int[HOURS];
        private final int[] pockets = new int[HOURS];
        private int done;
        private int end;

        /** Goes through it without ever doing LAWS of the set never; answers the LAWS done. */
        int run(World world, int start, int never) {
            done = 0;
            end = start;
            for (int hour = 0; hour < HOURS; hour++) {
                int law = world.firstHolding(hour, end, never | done);
                if (law != NONE) {
                    end = world.pocketsAfter(law, end);
                    done |= 1 << law;
                }
                put(laws, hour, law);
                put(pockets, hour, end);
            }
            return done;
        }

        int countDone(World world, int start) {
            return Integer.bitCount(run(world, start, 0));
        }

        int lawsDone() {
            return done;
        }

        int pocketsAtEnd() {
            return end;
        }

        int lawIn(int hour) {
            return cell(laws, hour);
        }

        int pocketsBehind(int hour) {
            return cell(pockets, hour);
        }

        boolean does(int law) {
            return (done & (1 << law)) != 0;
        }

        int hourOf(int law) {
            for (int hour = 0; hour < HOURS; hour++) {
                if (lawIn(hour) == law) return hour;
            }
            return NONE;
        }

        int firstIdle() {
            return hourOf(NONE);
        }

        boolean isHourForHourAs(Course other) {
            for (int hour = 0; hour < HOURS; hour++) {
                if (lawIn(hour) != other.lawIn(hour)) return false;
            }
            return true;
        }
    }

    /** The worlds as they were ahead of the latest changes: 8 at most, the oldest written over. */
    private static final class Past {
        private static final int MOST = 8;
        private final World[] worlds = new World[MOST];
        private int next;
        private int size;

        Past() {
            for (int i = 0; i < worlds.length; i++) worlds[i] = new World();
        }

        int size() {
            return size;
        }

        void forget() {
            size = 0;
        }

        void keep(World world) {
            World slot = worldAt(next);
            if (slot != null) slot.copyFrom(world);
            next = next == MOST - 1 ? 0 : next + 1;
            if (size < MOST) size++;
        }

        int undo(World world) {
            next = next == 0 ? MOST - 1 : next - 1;
            World slot = worldAt(next);
            if (slot != null) world.copyFrom(slot);
            size--;
            return size;
        }

        private World worldAt(int place) {
            return place >= 0 && place < worlds.length ? worlds[place] : null;
        }
    }

    /** The letters of a MILL. */
    private static final class Letters {
        private static final int MOST = 96;
        private static final int NEW_STATEMENT = -1;
        private final int[] text = new int[MOST];
        private final World trial = new World();
        private final Course course = new Course();
        private int size;
        private int statements;

        int size() {
            return size;
        }

        boolean isFull() {
            return size >= MOST;
        }

        int put(int letter) {
            SearchedAtTheGate.put(text, size, letter);
            size++;
            return size;
        }

        void wipe() {
            size = 0;
        }

        int statementsTold() {
            return statements;
        }

        /** Only a MILL without FAULT is handed over: what came of it came on trial. */
        void handOver(World world) {
            world.copyFrom(trial);
        }

        int faultOfForm() {
            int digitsLeft = NEW_STATEMENT;
            for (int place = 0; place < size; place++) {
                int letter = cell(text, place);
                if (digitsLeft == NEW_STATEMENT) {
                    digitsLeft = digitsBehind(letter);
                    if (digitsLeft < 0) return place;
                } else if (digitsLeft > 0) {
                    if (letter < '0' || letter > '9') return place;
                    digitsLeft--;
                } else {
                    if (letter != ';') return place;
                    digitsLeft = NEW_STATEMENT;
                }
            }
            return size == 0 || digitsLeft != NEW_STATEMENT ? size : NO_FAULT;
        }

        private static int digitsBehind(int letter) {
            switch (letter) {
                case 'l':
                    return 4;
                case 'p':
                    return 3;
                case 't':
                case 'b':
                    return 2;
                case 'x':
                case 'd':
                    return 0;
                default:
                    return -1;
            }
        }

        int faultOfSense(World world) {
            trial.copyFrom(world);
            statements = 0;
            int place = 0;
            // Each statement takes two letters or more.
            for (int turn = 0; turn < MOST && place < size; turn++) {
                if (!comes(place)) return place;
                statements++;
                place += Math.max(0, digitsBehind(cell(text, place))) + 2;
            }
            return NO_FAULT;
        }

        private boolean comes(int place) {
            switch (cell(text, place)) {
                case 'l':
                    return lawComes(digit(place + 1), digit(place + 2), digit(place + 3), digit(place + 4));
                case 'p':
                    return personComes(100 * digit(place + 1) + 10 * digit(place + 2) + digit(place + 3));
                case 't':
                    return isTaken(digit(place + 1), digit(place + 2));
                case 'b':
                    return isBrought(digit(place + 1), digit(place + 2));
                case 'x':
                    trial.emptyTray();
                    return true;
                default:
                    if (trial.dayNumber() >= LAST_DAY) return false;
                    trial.passDay(course);
                    return true;
            }
        }

        private int digit(int place) {
            return cell(text, place) - '0';
        }

        private boolean lawComes(int kind, int figure, int wanted, int given) {
            if (kind > LAST_KIND || !isThing(wanted) || !isThing(given) || !trial.hasLawRoom()) return false;
            trial.addLaw(kind, figure, wanted, given);
            return true;
        }

        private boolean personComes(int has) {
            if (has > ALL_THINGS || !trial.hasPersonRoom()) return false;
            trial.addPerson(has);
            return true;
        }

        private boolean isTaken(int person, int thing) {
            if (!trial.isPerson(person) || !hasThing(trial.pocketsOf(person), thing)) return false;
            trial.takeOut(person, thing);
            return true;
        }

        private boolean isBrought(int person, int thing) {
            if (!trial.isPerson(person) || !isThing(thing)) return false;
            trial.bringIn(person, thing);
            return true;
        }
    }

    /** The ROW: LAWS told hour by hour, 99 for none. */
    private static final class Told {
        private static final int MOST = 16;
        private final int[] numbers = new int[MOST];
        private int size;

        int size() {
            return size;
        }

        boolean isFull() {
            return size >= MOST;
        }

        int put(int number) {
            SearchedAtTheGate.put(numbers, size, number);
            size++;
            return size;
        }

        int wipe() {
            int had = size;
            size = 0;
            return had;
        }

        boolean isOfLaws(World world) {
            if (size > HOURS) return false;
            for (int i = 0; i < size; i++) {
                int number = cell(numbers, i);
                if (number != IDLE_NUMBER && !world.isLaw(number)) return false;
            }
            return true;
        }

        int firstWrong(Course course) {
            for (int hour = 0; hour < size; hour++) {
                if (hour >= HOURS) return hour;
                int law = course.lawIn(hour);
                if (cell(numbers, hour) != (law == NONE ? IDLE_NUMBER : law)) return hour;
            }
            return NONE;
        }
    }

    /** The POCKETS by which the ROW is so. */
    private static final class Guess {
        private final int[] fitting = new int[ALL_THINGS + 1];
        private final Course course = new Course();
        private int size;

        void learn(World world, Told told) {
            size = 0;
            for (int pockets = 0; pockets <= ALL_THINGS; pockets++) {
                course.run(world, pockets, 0);
                if (told.firstWrong(course) == NONE) {
                    put(fitting, size, pockets);
                    size++;
                }
            }
        }

        int howMany() {
            return size;
        }

        int least() {
            return size == 0 ? NONE : cell(fitting, 0);
        }

        int howManyWith(int thing) {
            int with = 0;
            for (int i = 0; i < size; i++) {
                if (hasThing(cell(fitting, i), thing)) with++;
            }
            return with;
        }

        int lesserPart(int thing) {
            int with = howManyWith(thing);
            return Math.min(with, size - with);
        }

        /** A thing that all have, or all have not, parts them too: the lesser part is of none. */
        int evenestThing() {
            if (size == 0) return NONE;
            int best = 0;
            for (int thing = 1; thing < THINGS; thing++) {
                if (lesserPart(thing) > lesserPart(best)) best = thing;
            }
            return best;
        }
    }

    /** What is found by going through all sets of THINGS. */
    private static final class Sets {
        private final Course course = new Course();

        int fewestTaken(World world, int pockets, int laws) {
            int best = NONE;
            for (int set = 0; set <= ALL_THINGS; set++) {
                if ((set & ~pockets) != 0 || !isFewer(set, best)) continue;
                if ((course.run(world, pockets & ~set, 0) & laws) == 0) best = set;
            }
            return best;
        }

        int agreeing(World world, int pockets, int what) {
            int many = 0;
            int best = NONE;
            for (int set = 0; set <= ALL_THINGS; set++) {
                if ((set & ~pockets) != 0) continue;
                int left = pockets & ~set;
                course.run(world, left, 0);
                if ((left & ~course.pocketsAtEnd()) != 0) continue;
                many++;
                if (isFewer(set, best)) best = set;
            }
            return what == 0 ? many : best;
        }

        int fewestBrought(World world, int pockets, int law) {
            int best = NONE;
            for (int set = 0; set <= ALL_THINGS; set++) {
                if ((set & pockets) != 0 || !isFewer(set, best)) continue;
                course.run(world, pockets | set, 0);
                if (course.does(law)) best = set;
            }
            return best;
        }

        int busiestPockets(World world) {
            int best = 0;
            int most = -1;
            for (int pockets = 0; pockets <= ALL_THINGS; pockets++) {
                int done = course.countDone(world, pockets);
                if (done > most) {
                    most = done;
                    best = pockets;
                }
            }
            return best;
        }

        int waysTo(World world, int law) {
            int many = 0;
            for (int pockets = 0; pockets <= ALL_THINGS; pockets++) {
                course.run(world, pockets, 0);
                if (course.does(law)) many++;
            }
            return many;
        }

        int earliestOf(World world, int law, int what) {
            int first = NONE;
            int least = NONE;
            for (int pockets = 0; pockets <= ALL_THINGS; pockets++) {
                course.run(world, pockets, 0);
                int hour = course.hourOf(law);
                if (hour != NONE && (first == NONE || hour < first)) {
                    first = hour;
                    least = pockets;
                }
            }
            return what == 0 ? first : least;
        }

        /** Of t to the power of his THINGS cases, all alike in odds, those in which the LAW is done. */
        long luckyCases(World world, int pockets, int law, int t) {
            long cases = 0;
            for (int left = 0; left <= ALL_THINGS; left++) {
                if ((left & ~pockets) != 0) continue;
                course.run(world, left, 0);
                if (course.does(law)) cases += power(t - 1, Integer.bitCount(left));
            }
            return cases;
        }

        /** The sum over all orders; a set ahead of the THING stands for all orders that begin with it. */
        long addedInOrders(World world, int pockets, int thing) {
            int others = pockets & ~thingBit(thing);
            int howMany = Integer.bitCount(others);
            long sum = 0;
            for (int ahead = 0; ahead <= ALL_THINGS; ahead++) {
                if ((ahead & ~others) != 0) continue;
                int size = Integer.bitCount(ahead);
                long orders = factorial(size) * factorial(howMany - size);
                int without = course.countDone(world, ahead);
                int with = course.countDone(world, ahead | thingBit(thing));
                sum += orders * (with - without);
            }
            return sum;
        }
    }

    /** What is asked of one alone. */
    private static final class Alone {
        private final Course course = new Course();
        private final Course other = new Course();
        private final World changed = new World();

        int fittingParts(World world, int pockets, int law, int part, Told told) {
            int values = part == KIND ? LAST_KIND + 1 : part == FIGURE ? LAST_FIGURE + 1 : THINGS;
            int bits = 0;
            changed.copyFrom(world);
            for (int value = 0; value < values; value++) {
                changed.setLawPart(law, part, value);
                course.run(changed, pockets, 0);
                if (told.firstWrong(course) == NONE) bits |= 1 << value;
            }
            return bits;
        }

        int guarded(World world, int pockets, int what) {
            int fewest = MOST_LAWS + 1;
            int taken = THINGS;
            // THINGS itself stands for none, and comes last.
            for (int thing = 0; thing <= THINGS; thing++) {
                if (thing < THINGS && !hasThing(pockets, thing)) continue;
                int most = mostStruck(world, pockets, thing);
                if (most < fewest) {
                    fewest = most;
                    taken = thing;
                }
            }
            return what == 0 ? fewest : taken;
        }

        private int mostStruck(World world, int pockets, int taken) {
            int left = pockets & ~thingBit(taken);
            int most = course.countDone(world, left);
            for (int thing = 0; thing < THINGS; thing++) {
                if (thing == taken) continue;
                most = Math.max(most, course.countDone(world, left | thingBit(thing)));
            }
            return most;
        }

        int dearestLaw(World world, int pockets) {
            int done = course.run(world, pockets, 0);
            int best = NONE;
            int fewest = MOST_LAWS + 1;
            for (int law = 0; law < MOST_LAWS; law++) {
                if ((done & (1 << law)) == 0) continue;
                int then = Integer.bitCount(course.run(world, pockets, 1 << law));
                if (then < fewest) {
                    fewest = then;
                    best = law;
                }
            }
            return best;
        }

        int latestFigure(World world, int pockets, int law) {
            changed.copyFrom(world);
            for (int figure = LAST_FIGURE; figure >= 0; figure--) {
                changed.setLawPart(law, FIGURE, figure);
                course.run(changed, pockets, 0);
                if (course.does(law)) return figure;
            }
            return NONE;
        }

        int lawsNeeded(World world, int pockets, int law) {
            course.run(world, pockets, 0);
            if (!course.does(law)) return 0;
            int bits = 0;
            for (int without = 0; without < MOST_LAWS; without++) {
                if (without == law || !world.isLaw(without)) continue;
                course.run(world, pockets, 1 << without);
                if (!course.does(law)) bits |= 1 << without;
            }
            return bits;
        }

        int idleThings(World world, int pockets) {
            course.run(world, pockets, 0);
            int bits = 0;
            for (int thing = 0; thing < THINGS; thing++) {
                if (!hasThing(pockets, thing)) continue;
                other.run(world, pockets & ~thingBit(thing), 0);
                if (other.isHourForHourAs(course)) bits |= thingBit(thing);
            }
            return bits;
        }

        int pocketsInDays(World world, int pockets, int days) {
            int has = pockets;
            for (int i = 0; i < days; i++) {
                course.run(world, has, 0);
                has = course.pocketsAtEnd();
            }
            return has;
        }

        int lawsInDays(World world, int pockets, int days) {
            int has = pockets;
            int laws = 0;
            for (int i = 0; i < days; i++) {
                laws |= course.run(world, has, 0);
                has = course.pocketsAtEnd();
            }
            return laws;
        }
    }

    /** What is asked of several, or of all. */
    private static final class Folk {
        private static final int MOST_ROUNDS = 60;
        private static final int WITHOUT_SIGN = 0x7fffffff;
        private final Course course = new Course();
        private final World later = new World();
        private final long[] states = new long[MOST_ROUNDS + 1];
        private final int[] served = new int[ALL_THINGS + 1];

        /** LAWS done by all together, were the set taken of all. */
        int doneTogether(World world, int taken) {
            int done = 0;
            for (int person = 0; person < world.peopleCount(); person++) {
                done += course.countDone(world, world.pocketsOf(person) & ~taken);
            }
            return done;
        }

        int doneBySome(World world) {
            int laws = 0;
            for (int person = 0; person < world.peopleCount(); person++) {
                laws |= course.run(world, world.pocketsOf(person), 0);
            }
            return laws;
        }

        int doneByAll(World world) {
            if (world.peopleCount() == 0) return 0;
            int laws = world.allLaws();
            for (int person = 0; person < world.peopleCount(); person++) {
                laws &= course.run(world, world.pocketsOf(person), 0);
            }
            return laws;
        }

        int mostAlike(World world, int what) {
            int two = NONE;
            int most = NONE;
            for (int one = 0; one < world.peopleCount(); one++) {
                int laws = course.run(world, world.pocketsOf(one), 0);
                for (int other = one + 1; other < world.peopleCount(); other++) {
                    int both = Integer.bitCount(laws & course.run(world, world.pocketsOf(other), 0));
                    if (both > most) {
                        most = both;
                        two = 10 * one + other;
                    }
                }
            }
            return what == 0 ? two : most;
        }

        int keyThing(World world, int what) {
            int key = 0;
            int fewest = doneTogether(world, thingBit(0));
            for (int thing = 1; thing < THINGS; thing++) {
                int done = doneTogether(world, thingBit(thing));
                if (done < fewest) {
                    fewest = done;
                    key = thing;
                }
            }
            return what == 0 ? key : fewest;
        }

        /** THINGS of THE TRAY that, each alone given to one, make him do more LAWS. */
        int spurs(World world, int pockets) {
            int done = course.countDone(world, pockets);
            int bits = 0;
            for (int thing = 0; thing < THINGS; thing++) {
                if (!hasThing(world.onTheTray(), thing)) continue;
                if (course.countDone(world, pockets | thingBit(thing)) > done) bits |= thingBit(thing);
            }
            return bits;
        }

        int mostOwners(World world) {
            Arrays.fill(served, 0);
            put(served, 0, 1);
            for (int person = 0; person < world.peopleCount(); person++) {
                serve(spurs(world, world.pocketsOf(person)));
            }
            int most = 0;
            for (int set = 0; set <= ALL_THINGS; set++) {
                if (cell(served, set) != 0) most = Math.max(most, Integer.bitCount(set));
            }
            return most;
        }

        /** From the greatest set down: what one is given makes a set greater, so nobody is served twice. */
        private void serve(int wishes) {
            for (int set = ALL_THINGS; set >= 0; set--) {
                if (cell(served, set) == 0) continue;
                for (int thing = 0; thing < THINGS; thing++) {
                    if (hasThing(wishes & ~set, thing)) put(served, set | thingBit(thing), 1);
                }
            }
        }

        int firstReturn(World world) {
            later.copyFrom(world);
            keepState(0);
            for (int n = 1; n <= MOST_ROUNDS; n++) {
                later.passDay(course);
                keepState(n);
                if (isSeenAhead(n)) return n;
            }
            return NONE;
        }

        private void keepState(int n) {
            long state = 0;
            for (int person = 0; person < later.peopleCount(); person++) {
                state = (state << THINGS) | later.pocketsOf(person);
            }
            if (n >= 0 && n < states.length) states[n] = state;
        }

        private boolean isSeenAhead(int n) {
            if (n < 0 || n >= states.length) return false;
            for (int i = 0; i < n; i++) {
                if (states[i] == states[n]) return true;
            }
            return false;
        }

        private int doneByBoth(World world, int one, int other) {
            return course.countDone(world, one) + course.countDone(world, other);
        }

        int bestTrade(World world, int one, int other, int what) {
            int most = doneByBoth(world, one, other);
            int things = 88;
            for (int mine = 0; mine < THINGS; mine++) {
                if (!hasThing(one, mine)) continue;
                for (int his = 0; his < THINGS; his++) {
                    if (!hasThing(other, his)) continue;
                    int oneThen = (one & ~thingBit(mine)) | thingBit(his);
                    int otherThen = (other & ~thingBit(his)) | thingBit(mine);
                    int done = doneByBoth(world, oneThen, otherThen);
                    if (done > most) {
                        most = done;
                        things = 10 * mine + his;
                    }
                }
            }
            return what == 0 ? most : things;
        }

        int bestGift(World world, int one, int other) {
            int most = doneByBoth(world, one, other);
            int best = NONE;
            for (int thing = 0; thing < THINGS; thing++) {
                if (!hasThing(one, thing)) continue;
                int done = doneByBoth(world, one & ~thingBit(thing), other | thingBit(thing));
                if (done > most) {
                    most = done;
                    best = thing;
                }
            }
            return best;
        }

        /** Each morning finds POCKETS as they are now. */
        int drawn(World world, int mornings, int seed, int what) {
            int z = seed;
            int done = 0;
            int taken = 0;
            for (int morning = 0; morning < mornings; morning++) {
                for (int person = 0; person < world.peopleCount(); person++) {
                    z = z * 1103515245 + 12345;
                    int thing = ((z & WITHOUT_SIGN) >>> 16) % THINGS;
                    int pockets = world.pocketsOf(person);
                    if (hasThing(pockets, thing)) taken++;
                    done += course.countDone(world, pockets & ~thingBit(thing));
                }
            }
            return what == 0 ? done : taken;
        }
    }
}
