/** Edges of promises 1, 2 and 4 to 7: a new object, letters, LAWS and PEOPLE told by hand. */
final class EdgesOfTelling {
    private static final int MIN = Edges.MIN;
    private static final int MAX = Edges.MAX;

    private EdgesOfTelling() {
    }

    // ---- 1: "No LAWS, no PEOPLE, an empty TRAY."; "DAY (0 .. 999; 0 at first)" ----

    static void promise1NoLaws() {
        SearchedAtTheGate g = new SearchedAtTheGate();
        Check.due("count(0)", g.count(0), 0);
        Check.due("lawOf(0, 0)", g.lawOf(0, 0), -1);
        Check.due("never(0)", g.never(0), 0);
        Check.due("law() is the first", g.law(0, 0, 0), 0);
    }

    static void promise1NoPeople() {
        SearchedAtTheGate g = new SearchedAtTheGate();
        Check.due("count(1)", g.count(1), 0);
        Check.due("pockets(0)", g.pockets(0), -1);
        Check.due("count(4)", g.count(4), 0);
        Check.due("person() is the first", g.person(0), 0);
    }

    static void promise1EmptyTray() {
        SearchedAtTheGate g = new SearchedAtTheGate();
        Check.due("count(3)", g.count(3), 0);
        Check.due("tray(0)", g.tray(0), 0);
        Check.due("clears()", g.clears(), 0);
    }

    static void promise1Day0AtFirst() {
        SearchedAtTheGate g = new SearchedAtTheGate();
        Check.due("count(2)", g.count(2), 0);
        Check.due("image()", g.image(), 0);
    }

    static void promise1NothingElse() {
        SearchedAtTheGate g = new SearchedAtTheGate();
        for (int what = 0; what <= 8; what++) Check.due("count(" + what + ")", g.count(what), 0);
        for (int what = 11; what <= 16; what++) Check.due("count(" + what + ")", g.count(what), 0);
        Check.due("back()", g.back(), -3);
        Check.due("restore()", g.restore(), -3);
        Check.due("clear()", g.clear(), 0);
        Check.due("mill()", g.mill(), -1000);
    }

    static void promise1EachObjectByItself() {
        SearchedAtTheGate one = Edges.some();
        SearchedAtTheGate other = Edges.some();
        SearchedAtTheGate third = new SearchedAtTheGate();
        third.law(0, 0, 0);
        third.person(255);
        third.takes(0, 0);
        third.image();
        third.row(99);
        third.feed('x');
        Edges.same("other objects", one, other);
        Check.due("of its own", third.count(4), 7);
    }

    // ---- 2: "-4; -6 (255; 96, too)" ----

    static void promise2TheLeastLetter() {
        Check.due("feed(0)", new SearchedAtTheGate().feed(0), 1);
    }

    static void promise2BelowTheLeast() {
        for (int letter : new int[] {-1, -2, MIN}) {
            Edges.refused("feed(" + letter + ")", -4, Edges::bare, g -> g.feed(letter));
            Edges.refused("feed(" + letter + ")", -4, Edges::some, g -> g.feed(letter));
        }
    }

    static void promise2TheGreatestLetter() {
        Check.due("feed(255)", new SearchedAtTheGate().feed(255), 1);
    }

    static void promise2AboveTheGreatest() {
        for (int letter : new int[] {256, 257, 256 + 'x', MAX}) {
            Edges.refused("feed(" + letter + ")", -6, Edges::bare, g -> g.feed(letter));
            Edges.refused("feed(" + letter + ")", -6, Edges::some, g -> g.feed(letter));
        }
    }

    static void promise2EachLetterIsTaken() {
        for (int start = 0; start <= 255; start += 64) {
            SearchedAtTheGate g = new SearchedAtTheGate();
            for (int i = 0; i < 64; i++) Check.due("feed(" + (start + i) + ")", g.feed(start + i), i + 1);
        }
    }

    private static SearchedAtTheGate letters(int many) {
        SearchedAtTheGate g = new SearchedAtTheGate();
        for (int i = 0; i < many; i++) g.feed(i % 2 == 0 ? 'd' : ';');
        return g;
    }

    static void promise2The96thIsTaken() {
        SearchedAtTheGate g = letters(95);
        Check.due("the 96th", g.feed(';'), 96);
        Check.due("count(6)", g.count(6), 96);
        Check.due("mill() of all", g.mill(), 48);
    }

    static void promise2The97thHasNoRoom() {
        Edges.refused("the 97th", -6, () -> letters(96), g -> g.feed('d'));
        Edges.refused("the 97th of all there is", -6, Edges::full, g -> g.feed(';'));
        SearchedAtTheGate g = letters(96);
        g.feed('q');
        Check.due("mill() of 96 still", g.mill(), 48);
    }

    static void promise2BelowAheadOfNoRoom() {
        Edges.refused("feed(-1), the 97th", -4, () -> letters(96), g -> g.feed(-1));
    }

    static void promise2AboveAndNoRoomIsCountedOnce() {
        Edges.refused("feed(256), the 97th", -6, () -> letters(96), g -> g.feed(256));
    }

    static void promise2CountedFrom1BehindAMill() {
        SearchedAtTheGate g = letters(96);
        g.mill();
        Check.due("feed('d')", g.feed('d'), 1);
        Check.due("feed('q')", g.feed('q'), 2);
        g.mill();
        Check.due("feed('d') behind a FAULT", g.feed('d'), 1);
    }

    // ---- 4: "KIND (what 0), FIGURE (1), WANTED (2), GIVEN (3). -1; -2." ----

    private static SearchedAtTheGate twoLaws() {
        SearchedAtTheGate g = new SearchedAtTheGate();
        g.law(5, 9, 77);
        g.law(0, 0, 0);
        g.law(1, 2, 34);
        return g;
    }

    static void promise4TheGreatestAndTheLeastOfEach() {
        int[] due = {5, 9, 7, 7, 0, 0, 0, 0, 1, 2, 3, 4};
        for (int i = 0; i < due.length; i++) {
            int law = i / 4;
            int what = i % 4;
            Edges.stays("lawOf(" + law + ", " + what + ")", due[i], EdgesOfTelling::twoLaws, g -> g.lawOf(law, what));
        }
    }

    static void promise4NoSuchLaw() {
        for (int law : new int[] {-1, 3, 9, 10, MIN, MAX}) {
            Edges.refused("lawOf(" + law + ", 0)", -1, EdgesOfTelling::twoLaws, g -> g.lawOf(law, 0));
        }
        Edges.refused("lawOf(0, 0) without LAWS", -1, Edges::bare, g -> g.lawOf(0, 0));
        Edges.refused("lawOf(10, 0) of ten", -1, Edges::full, g -> g.lawOf(10, 0));
        Check.due("lawOf(9, 1) of ten", Edges.full().lawOf(9, 1), 2);
    }

    static void promise4AnotherWhat() {
        for (int what : new int[] {-1, 4, MIN, MAX}) {
            Edges.refused("lawOf(0, " + what + ")", -2, EdgesOfTelling::twoLaws, g -> g.lawOf(0, what));
        }
    }

    static void promise4NoSuchLawFirst() {
        Edges.refused("lawOf(3, 4)", -1, EdgesOfTelling::twoLaws, g -> g.lawOf(3, 4));
        Edges.refused("lawOf(-1, -1)", -1, EdgesOfTelling::twoLaws, g -> g.lawOf(-1, -1));
    }

    // ---- 5: "POCKETS. -1." ----

    static void promise5EmptyAndFull() {
        SearchedAtTheGate g = new SearchedAtTheGate();
        g.person(0);
        g.person(255);
        Check.due("empty", g.pockets(0), 0);
        Check.due("full", g.pockets(1), 255);
    }

    static void promise5TheFirstAndTheLastOfSix() {
        SearchedAtTheGate g = new SearchedAtTheGate();
        for (int i = 0; i < 6; i++) g.person(40 + i);
        Check.due("pockets(0)", g.pockets(0), 40);
        Check.due("pockets(5)", g.pockets(5), 45);
    }

    static void promise5Nobody() {
        for (int person : new int[] {-1, 3, 5, 6, MIN, MAX}) {
            Edges.refused("pockets(" + person + ")", -1, Edges::some, g -> g.pockets(person));
        }
        Edges.refused("pockets(0) of nobody", -1, Edges::bare, g -> g.pockets(0));
        Edges.refused("pockets(6) of six", -1, Edges::full, g -> g.pockets(6));
    }

    // ---- 6: "-2; -4 either; -6 (FIGURE 9, either THING 7; 10 there are)" ----

    static void promise6TheLeastOfAll() {
        SearchedAtTheGate g = new SearchedAtTheGate();
        Check.due("law(0, 0, 0)", g.law(0, 0, 0), 0);
        for (int what = 0; what < 4; what++) Check.due("lawOf(0, " + what + ")", g.lawOf(0, what), 0);
    }

    static void promise6TheGreatestOfAll() {
        SearchedAtTheGate g = new SearchedAtTheGate();
        Check.due("law(5, 9, 77)", g.law(5, 9, 77), 0);
        int[] due = {5, 9, 7, 7};
        for (int what = 0; what < 4; what++) Check.due("lawOf(0, " + what + ")", g.lawOf(0, what), due[what]);
    }

    static void promise6EitherThingByItself() {
        SearchedAtTheGate g = new SearchedAtTheGate();
        Check.due("law(0, 0, 70)", g.law(0, 0, 70), 0);
        Check.due("law(0, 0, 7)", g.law(0, 0, 7), 1);
        Check.due("WANTED of 70", g.lawOf(0, 2), 7);
        Check.due("GIVEN of 70", g.lawOf(0, 3), 0);
        Check.due("WANTED of 7", g.lawOf(1, 2), 0);
        Check.due("GIVEN of 7", g.lawOf(1, 3), 7);
    }

    static void promise6EachKind() {
        SearchedAtTheGate g = new SearchedAtTheGate();
        for (int kind = 0; kind <= 5; kind++) {
            Check.due("law of KIND " + kind, g.law(kind, 0, 0), kind);
            Check.due("its KIND", g.lawOf(kind, 0), kind);
        }
    }

    static void promise6NoSuchKind() {
        for (int kind : new int[] {-1, 6, MIN, MAX}) {
            Edges.refused("law(" + kind + ", 0, 0)", -2, Edges::some, g -> g.law(kind, 0, 0));
        }
    }

    static void promise6FigureBelow() {
        for (int figure : new int[] {-1, MIN}) Edges.refused("law(0, " + figure + ", 0)", -4, Edges::some, g -> g.law(0, figure, 0));
    }

    static void promise6ThingsBelow() {
        for (int things : new int[] {-1, -7, -10, -70, MIN}) {
            Edges.refused("law(0, 0, " + things + ")", -4, Edges::some, g -> g.law(0, 0, things));
        }
    }

    static void promise6FigureAbove() {
        for (int figure : new int[] {10, MAX}) Edges.refused("law(0, " + figure + ", 0)", -6, Edges::some, g -> g.law(0, figure, 0));
    }

    static void promise6WantedAbove() {
        for (int things : new int[] {80, 87, 90, 97, 100, 107, 777, MAX - 7}) {
            Edges.refused("law(0, 0, " + things + ")", -6, Edges::some, g -> g.law(0, 0, things));
        }
    }

    static void promise6GivenAbove() {
        for (int things : new int[] {8, 9, 18, 19, 78, 79}) {
            Edges.refused("law(0, 0, " + things + ")", -6, Edges::some, g -> g.law(0, 0, things));
        }
    }

    static void promise6TheTenthIsTaken() {
        SearchedAtTheGate g = new SearchedAtTheGate();
        for (int law = 0; law < 10; law++) Check.due("law() more", g.law(1, law, 10), law);
        Check.due("count(0)", g.count(0), 10);
        Check.due("FIGURE of the last", g.lawOf(9, 1), 9);
    }

    static void promise6TheEleventhHasNoRoom() {
        Edges.refused("law(0, 0, 0), the 11th", -6, Edges::full, g -> g.law(0, 0, 0));
        Edges.refused("law(5, 9, 77), the 11th", -6, Edges::full, g -> g.law(5, 9, 77));
    }

    static void promise6OtherAheadOfAll() {
        Edges.refused("law(6, -1, -1)", -2, Edges::some, g -> g.law(6, -1, -1));
        Edges.refused("law(-1, 10, 80)", -2, Edges::full, g -> g.law(-1, 10, 80));
    }

    static void promise6EitherBelowAheadOfAbove() {
        Edges.refused("law(0, 10, -1)", -4, Edges::some, g -> g.law(0, 10, -1));
        Edges.refused("law(0, -1, 80)", -4, Edges::some, g -> g.law(0, -1, 80));
        Edges.refused("law(0, -1, 0), the 11th", -4, Edges::full, g -> g.law(0, -1, 0));
        Edges.refused("law(0, 0, -1), the 11th", -4, Edges::full, g -> g.law(0, 0, -1));
    }

    // ---- 7: "-4; -6 (255; 6 there are)" ----

    static void promise7TheLeastAndTheGreatest() {
        SearchedAtTheGate g = new SearchedAtTheGate();
        Check.due("person(0)", g.person(0), 0);
        Check.due("person(255)", g.person(255), 1);
        Check.due("pockets(0)", g.pockets(0), 0);
        Check.due("pockets(1)", g.pockets(1), 255);
    }

    static void promise7Below() {
        for (int pockets : new int[] {-1, -255, MIN}) Edges.refused("person(" + pockets + ")", -4, Edges::some, g -> g.person(pockets));
    }

    static void promise7Above() {
        for (int pockets : new int[] {256, 511, MAX}) Edges.refused("person(" + pockets + ")", -6, Edges::some, g -> g.person(pockets));
    }

    static void promise7TheSixthIsTaken() {
        SearchedAtTheGate g = new SearchedAtTheGate();
        for (int person = 0; person < 6; person++) Check.due("person() more", g.person(person), person);
        Check.due("count(1)", g.count(1), 6);
    }

    static void promise7TheSeventhHasNoRoom() {
        Edges.refused("person(0), the 7th", -6, Edges::full, g -> g.person(0));
        Edges.refused("person(255), the 7th", -6, Edges::full, g -> g.person(255));
    }

    static void promise7BelowAheadOfNoRoom() {
        Edges.refused("person(-1), the 7th", -4, Edges::full, g -> g.person(-1));
    }
}
