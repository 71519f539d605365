import java.io.IOException;

/** Boundary cases of promises 6 to 9: putting, palming, searching, tying and locking, hours and what falls. */
public final class EdgesOfDoingsTest {
    private static final int NONE = SleightHouse.NONE;
    private static final int MIN = Integer.MIN_VALUE;
    private static final int MAX = Integer.MAX_VALUE;

    private EdgesOfDoingsTest() {
    }

    public static void main(String[] args) throws IOException, IllegalAccessException {
        Cases.run(EdgesOfDoingsTest.class);
    }

    // Promise 6: to put

    @Says(promise = 6, words = "NONE if it can't be (TIED;")
    static void whoIsTiedPutsNothing() {
        SleightHouse x = Scenes.house();
        x.act(0, 1);
        Due.is("puts(1, 0, 4)", x.puts(1, 0, 4), NONE);
        Due.is("of(0, 2)", x.of(0, 2), 0);
        x.act(1, 1);
        Due.is("loose again: puts(1, 0, 4)", x.puts(1, 0, 4), 4);
    }

    @Says(promise = 6, words = "one of both PLACES locked")
    static void nothingIsPutIntoALockedPlace() {
        SleightHouse x = Scenes.house();
        x.act(2, 4);
        Due.is("puts(1, 0, 4)", x.puts(1, 0, 4), NONE);
        Due.is("of(0, 2)", x.of(0, 2), 0);
        x.act(3, 4);
        Due.is("open again: puts(1, 0, 4)", x.puts(1, 0, 4), 4);
    }

    @Says(promise = 6, words = "one of both PLACES locked")
    static void nothingIsPutOutOfALockedPlace() {
        SleightHouse x = Scenes.house();
        x.act(2, 0);
        Due.is("puts(1, 0, 4)", x.puts(1, 0, 4), NONE);
        Due.is("of(0, 2)", x.of(0, 2), 0);
    }

    @Says(promise = 6, words = "one of both PLACES locked")
    static void nothingIsPutWhereItIsIfThatIsLocked() {
        SleightHouse x = Scenes.house();
        x.act(2, 0);
        Due.is("puts(1, 0, 0)", x.puts(1, 0, 0), NONE);
        Due.is("of(0, 3)", x.of(0, 3), 0);
    }

    @Says(promise = 6, words = "FULL and SIZE above ROOM")
    static void roomThatIsJustEnoughIsEnough() {
        SleightHouse x = Scenes.house();
        x.set(1, 0, 4);
        Due.is("5 and 4 of 9: puts(1, 0, 1)", x.puts(1, 0, 1), 1);
        Due.is("place(1, 3)", x.place(1, 3), 9);
    }

    @Says(promise = 6, words = "FULL and SIZE above ROOM")
    static void roomThatIsOneShortIsTooLittle() {
        SleightHouse x = Scenes.house();
        x.set(1, 0, 5);
        Due.is("5 and 5 of 9: puts(1, 0, 1)", x.puts(1, 0, 1), NONE);
        Due.is("place(1, 3)", x.place(1, 3), 5);
    }

    @Says(promise = 6, words = "FULL and SIZE above ROOM")
    static void anEmptyPlaceMayBeTooSmall() {
        SleightHouse x = Scenes.house();
        x.set(0, 4, 2);
        Due.is("3 of 2: puts(1, 0, 4)", x.puts(1, 0, 4), NONE);
        x.set(0, 4, 3);
        Due.is("3 of 3: puts(1, 0, 4)", x.puts(1, 0, 4), 4);
    }

    @Says(promise = 6, words = "ROOM 0 .. 99")
    static void roomOf0TakesNothing() {
        SleightHouse x = Scenes.house();
        x.set(1, 0, 1);
        x.set(0, 4, 0);
        Due.is("puts(1, 0, 4)", x.puts(1, 0, 4), NONE);
    }

    @Says(promise = 6, words = "ROOM 0 .. 99")
    static void roomOf99TakesElevenOfSize9() {
        SleightHouse x = new SleightHouse();
        x.person(0, 0);
        x.set(0, 0, 99);
        for (int i = 0; i < 12; i++) {
            x.thing(9, 0, 1);
        }
        for (int i = 0; i < 11; i++) {
            Due.is("puts(0, " + i + ", 0)", x.puts(0, i, 0), 0);
        }
        Due.is("the twelfth", x.puts(0, 11, 0), NONE);
        Due.is("place(0, 3)", x.place(0, 3), 99);
    }

    @Says(promise = 6, words = "it is taken out ahead")
    static void aPlaceThatIsFullOfItTakesItAgain() {
        SleightHouse x = Scenes.house();
        Due.is("puts(1, 2, 2)", x.puts(1, 2, 2), 2);
        Due.is("of(2, 3)", x.of(2, 3), 1);
    }

    @Says(promise = 6, words = "it goes back, nothing more")
    static void itGoesBackToAPlaceThatIsTooFull() {
        SleightHouse x = Scenes.house();
        x.set(0, 2, 8);
        Due.is("9 of 8: puts(1, 2, 2)", x.puts(1, 2, 2), NONE);
        Due.is("of(2, 2)", x.of(2, 2), 2);
        Due.is("of(2, 3)", x.of(2, 3), 0);
        Due.is("out of it: puts(1, 2, 4)", x.puts(1, 2, 4), 4);
    }

    @Says(promise = 6, words = "there is no ROOM: nothing is done")
    static void aRefusedPuttingDoesNothing() {
        SleightHouse x = Scenes.houseWithLaw("palms 1000;far 1;");
        x.set(3, 2, 1);
        x.set(0, 4, 8);
        Due.is("puts(0, 2, 4)", x.puts(0, 2, 4), NONE);
        Due.is("IN", x.of(2, 2), 2);
        Due.is("MOVED", x.of(2, 3), 0);
        Due.is("LOST", x.of(2, 4), 1);
        Due.is("PALMED", x.who(0, 3), 0);
        Due.is("STATE", x.look(7), 0);
        Due.is("the book", x.look(6), 0);
        Due.is("nothing to undo", x.look(12), 0);
    }

    @Says(promise = 6, words = "NONE if it can't be")
    static void noSuchPersonThingOrPlaceIsPut() {
        SleightHouse x = Scenes.house();
        int[] far = {-1, MIN, MAX};
        for (int v : far) {
            Due.is("puts(" + v + ", 0, 4)", x.puts(v, 0, 4), NONE);
            Due.is("puts(1, " + v + ", 4)", x.puts(1, v, 4), NONE);
            Due.is("puts(1, 0, " + v + ")", x.puts(1, 0, v), NONE);
        }
        Due.is("puts(2, 0, 4)", x.puts(2, 0, 4), NONE);
        Due.is("puts(1, 3, 4)", x.puts(1, 3, 4), NONE);
        Due.is("puts(1, 0, 12)", x.puts(1, 0, 12), NONE);
        Due.is("look(12)", x.look(12), 0);
    }

    @Says(promise = 6, words = "PLACES 0 .. 11")
    static void theLastOfAllIsPutInTheLastPlace() {
        SleightHouse x = new SleightHouse();
        for (int i = 0; i < 16; i++) {
            x.thing(1, 0, 0);
        }
        for (int i = 0; i < 12; i++) {
            x.person(0, 0);
        }
        Due.is("puts(11, 15, 11)", x.puts(11, 15, 11), 11);
        Due.is("place(11, 4)", x.place(11, 4), 32768);
    }

    @Says(promise = 6, words = "Else it is IN it, MOVED one more, LOST 0.")
    static void whatIsPutIsNoMoreLost() {
        SleightHouse x = Scenes.house();
        x.set(3, 0, 1);
        Due.is("puts(1, 0, 4)", x.puts(1, 0, 4), 4);
        Due.is("of(0, 3)", x.of(0, 3), 1);
        Due.is("of(0, 4)", x.of(0, 4), 0);
    }

    // Promise 6: to palm

    @Says(promise = 6, words = "is it above 0, a DRAW of 1000")
    static void palmsOf0MakesNoDraw() {
        SleightHouse x = Scenes.houseWithLaw("palms 0;far 1;");
        x.state(Scenes.stateAheadOf(0));
        int state = x.look(7);
        Due.is("puts(0, 0, 4)", x.puts(0, 0, 4), 4);
        Due.is("look(7)", x.look(7), state);
    }

    @Says(promise = 6, words = "is it above 0, a DRAW of 1000")
    static void palmsBelow0MakesNoDraw() {
        SleightHouse x = Scenes.houseWithLaw("palms 0-1;far 1;");
        Due.is("puts(0, 0, 4)", x.puts(0, 0, 4), 4);
        Due.is("look(7)", x.look(7), 0);
    }

    @Says(promise = 6, words = "is it above 0, a DRAW of 1000")
    static void palmsOf1MakesADraw() {
        SleightHouse x = Scenes.houseWithLaw("palms 1;far 1;");
        Due.is("puts(0, 0, 4)", x.puts(0, 0, 4), 4);
        Due.is("look(7)", x.look(7), 1013904223);
    }

    private static int putsWithDraw(int palms, int draw) {
        SleightHouse x = Scenes.houseWithLaw("palms " + palms + ";far 1;");
        x.state(Scenes.stateAheadOf(draw));
        return x.puts(0, 0, 4);
    }

    @Says(promise = 6, words = "a DRAW of 1000: below it far is asked")
    static void aDrawOneBelowPalms() {
        Due.is("0 below 1", putsWithDraw(1, 0), 5);
        Due.is("499 below 500", putsWithDraw(500, 499), 5);
        Due.is("998 below 999", putsWithDraw(999, 998), 5);
    }

    @Says(promise = 6, words = "a DRAW of 1000: below it far is asked")
    static void aDrawJustAsPalmsIsNotBelowIt() {
        Due.is("1 not below 1", putsWithDraw(1, 1), 4);
        Due.is("500 not below 500", putsWithDraw(500, 500), 4);
        Due.is("999 not below 999", putsWithDraw(999, 999), 4);
    }

    @Says(promise = 6, words = "palms, finds held to 0 .. 1000")
    static void palmsOf1000IsAboveEachDraw() {
        Due.is("999 below 1000", putsWithDraw(1000, 999), 5);
        Due.is("999 below 9999, held to 1000", putsWithDraw(9999, 999), 5);
    }

    /** Where a thing of size 3 comes to that is put in that place and palmed so far. */
    private static int palmedFrom(int place, int far) {
        SleightHouse x = Scenes.houseWithLaw("palms 1000;far " + far + ";");
        x.thing(3, 0, 8);
        return x.puts(0, 3, place);
    }

    @Says(promise = 6, words = "from that PLACE on (behind 11 comes 0)")
    static void behindPlace11ComesPlace0() {
        Due.is("11 and 1", palmedFrom(11, 1), 0);
        Due.is("11 and 11", palmedFrom(11, 11), 10);
        Due.is("10 and 2", palmedFrom(10, 2), 0);
    }

    @Says(promise = 6, words = "so many PLACES farther")
    static void farOnceAroundIsAsFarAsNothing() {
        Due.is("4 and 1", palmedFrom(4, 1), 5);
        Due.is("4 and 13", palmedFrom(4, 13), 5);
        Due.is("4 and 11", palmedFrom(4, 11), 3);
        Due.is("4 and 23", palmedFrom(4, 23), 3);
    }

    @Says(promise = 6, words = "far to 0 .. 99")
    static void farOf99IsTheFarthest() {
        Due.is("4 and 99", palmedFrom(4, 99), 7);
        Due.is("4 and 100, held to 99", palmedFrom(4, 100), 7);
        Due.is("11 and 99", palmedFrom(11, 99), 3);
    }

    @Says(promise = 6, words = "itself last of all")
    static void farOf0PassesOverThePlaceItself() {
        Due.is("4 and 0", palmedFrom(4, 0), 5);
        Due.is("11 and 0", palmedFrom(11, 0), 0);
        Due.is("4 and 12", palmedFrom(4, 12), 5);
        Due.is("4 and 96", palmedFrom(4, 96), 5);
    }

    @Says(promise = 6, words = "itself last of all")
    static void onTheWayThePlaceItselfIsPassedOver() {
        SleightHouse x = Scenes.houseWithLaw("palms 1000;far 11;");
        x.set(0, 3, 2);
        Due.is("3 has no room, 4 is itself", x.puts(0, 0, 4), 5);
    }

    @Says(promise = 6, words = "itself last of all")
    static void ifNoOtherHasRoomItIsPalmedToWhereItIs() {
        SleightHouse x = Scenes.houseWithLaw("palms 1000;far 5;");
        for (int place = 0; place < 12; place++) {
            x.set(0, place, place == 4 ? 3 : 2);
        }
        Due.is("puts(0, 0, 4)", x.puts(0, 0, 4), 4);
        Due.is("MOVED", x.of(0, 3), 2);
        Due.is("LOST", x.of(0, 4), 1);
        Due.is("PALMED", x.who(0, 3), 1);
        Due.is("the book", x.look(6), 2);
        Due.is("book(1, 1)", x.book(1, 1), 1);
    }

    @Says(promise = 6, words = "then on to the first one that has ROOM for it")
    static void oneWithJustEnoughRoomHasRoom() {
        SleightHouse x = Scenes.houseWithLaw("palms 1000;far 1;");
        x.set(0, 5, 2);
        x.set(0, 6, 3);
        Due.is("puts(0, 0, 4)", x.puts(0, 0, 4), 6);
    }

    @Says(promise = 6, words = "then on to the first one that has ROOM for it")
    static void theWayOnGoesAroundToo() {
        SleightHouse x = Scenes.houseWithLaw("palms 1000;far 1;");
        x.set(0, 10, 0);
        x.set(0, 11, 0);
        x.set(0, 0, 2);
        Due.is("puts(0, 0, 9)", x.puts(0, 0, 9), 1);
    }

    @Says(promise = 6, words = "then on to the first one that has ROOM for it")
    static void theLastOtherOneIsFoundToo() {
        SleightHouse x = Scenes.houseWithLaw("palms 1000;far 6;");
        for (int place = 0; place < 12; place++) {
            x.set(0, place, place == 4 || place == 9 ? 3 : 2);
        }
        Due.is("from 10 on around to 9: puts(0, 0, 4)", x.puts(0, 0, 4), 9);
    }

    @Says(promise = 6, words = "locked or not")
    static void itIsPalmedIntoALockedPlace() {
        SleightHouse x = Scenes.houseWithLaw("palms 1000;far 1;");
        x.act(2, 5);
        Due.is("puts(0, 0, 4)", x.puts(0, 0, 4), 5);
    }

    @Says(promise = 6, words = "then on to the first one that has ROOM for it")
    static void itMayBePalmedBackToWhereItCameFrom() {
        SleightHouse x = Scenes.houseWithLaw("palms 1000;far 10;");
        Due.is("the 9 that it filled is free: puts(0, 2, 4)", x.puts(0, 2, 4), 2);
        Due.is("MOVED", x.of(2, 3), 2);
    }

    @Says(promise = 6, words = "it is IN that one, MOVED one more, PALMED one more, LOST 1")
    static void whatIsPalmedIsCounted() {
        SleightHouse x = Scenes.houseWithLaw("palms 1000;far 1;");
        x.puts(0, 0, 4);
        Due.is("IN", x.of(0, 2), 5);
        Due.is("MOVED", x.of(0, 3), 2);
        Due.is("LOST", x.of(0, 4), 1);
        Due.is("PALMED", x.who(0, 3), 1);
        Due.is("of nobody else", x.who(1, 3), 0);
    }

    @Says(promise = 6, words = "Then palms is asked of that PLACE")
    static void palmsIsAskedWhenItLiesThere() {
        String when = " when full = 8 and moved = 1 and lost = 0 and palmed = 0 and place = 1";
        SleightHouse x = Scenes.houseWithLaw("palms 1000" + when + ";palms 0;far 4" + when + ";far 1;");
        x.set(3, 0, 1);
        Due.is("puts(0, 0, 1)", x.puts(0, 0, 1), 5);
    }

    // Promise 7: to search

    @Says(promise = 7, words = "To SEARCH a PLACE by a PERSON not TIED")
    static void whoIsTiedSearchesNothing() {
        SleightHouse x = Scenes.house();
        x.act(0, 1);
        Due.is("search(1, 0)", x.search(1, 0), NONE);
        Due.is("SEARCHED", x.place(0, 2), 0);
        Due.is("the book", x.look(6), 0);
        Due.is("what can be undone", x.look(12), 1);
    }

    @Says(promise = 7, words = "NONE if it can't be")
    static void noSuchPersonOrPlaceIsSearched() {
        SleightHouse x = Scenes.house();
        int[] far = {-1, MIN, MAX};
        for (int v : far) {
            Due.is("search(" + v + ", 0)", x.search(v, 0), NONE);
            Due.is("search(1, " + v + ")", x.search(1, v), NONE);
        }
        Due.is("search(2, 0)", x.search(2, 0), NONE);
        Due.is("search(1, 12)", x.search(1, 12), NONE);
        Due.is("the last of both: search(1, 11)", x.search(1, 11), 0);
    }

    @Says(promise = 7, words = "SEARCHED one more; is it not locked")
    static void aLockedPlaceIsSearchedForNothing() {
        SleightHouse x = Scenes.houseWithLaw("finds 1000;");
        x.set(3, 0, 1);
        x.act(2, 0);
        Due.is("search(1, 0)", x.search(1, 0), 0);
        Due.is("SEARCHED", x.place(0, 2), 1);
        Due.is("LOST", x.of(0, 4), 1);
        Due.is("no draw", x.look(7), 0);
        Due.is("the book has it", x.book(0, 1), 2);
        Due.is("it can be undone", x.look(12), 2);
    }

    @Says(promise = 7, words = "To SEARCH: how many are found")
    static void anEmptyPlaceBringsNothing() {
        SleightHouse x = Scenes.house();
        Due.is("search(1, 7)", x.search(1, 7), 0);
        Due.is("SEARCHED", x.place(7, 2), 1);
    }

    @Says(promise = 7, words = "THING by THING IN it that is LOST")
    static void whatIsNotLostIsNotFound() {
        SleightHouse x = Scenes.houseWithLaw("finds 1000;");
        Due.is("search(1, 0)", x.search(1, 0), 0);
        Due.is("no draw", x.look(7), 0);
        Due.is("FOUND", x.look(2), 0);
    }

    @Says(promise = 7, words = "THING by THING IN it that is LOST")
    static void whatIsElsewhereIsNotFound() {
        SleightHouse x = Scenes.houseWithLaw("finds 1000;");
        x.set(3, 1, 1);
        Due.is("search(1, 0)", x.search(1, 0), 0);
        Due.is("LOST", x.of(1, 4), 1);
    }

    private static int foundWithDraw(int finds, int draw) {
        SleightHouse x = Scenes.houseWithLaw("finds " + finds + ";");
        x.set(3, 0, 1);
        x.state(Scenes.stateAheadOf(draw));
        return x.search(1, 0);
    }

    @Says(promise = 7, words = "finds is asked, a DRAW of 1000: below it LOST is 0")
    static void aDrawOneBelowFindsFinds() {
        Due.is("0 below 1", foundWithDraw(1, 0), 1);
        Due.is("499 below 500", foundWithDraw(500, 499), 1);
    }

    @Says(promise = 7, words = "finds is asked, a DRAW of 1000: below it LOST is 0")
    static void aDrawJustAsFindsDoesNotFind() {
        Due.is("1 not below 1", foundWithDraw(1, 1), 0);
        Due.is("500 not below 500", foundWithDraw(500, 500), 0);
        Due.is("999 not below 999", foundWithDraw(999, 999), 0);
    }

    @Says(promise = 7, words = "palms, finds held to 0 .. 1000")
    static void findsOf1000FindsByEachDraw() {
        Due.is("999 below 1000", foundWithDraw(1000, 999), 1);
        Due.is("999 below 9999, held to 1000", foundWithDraw(9999, 999), 1);
    }

    @Says(promise = 7, words = "finds is asked, a DRAW of 1000")
    static void findsOf0IsDrawnForToo() {
        SleightHouse x = Scenes.houseWithLaw("finds 0;");
        x.set(3, 0, 1);
        Due.is("search(1, 0)", x.search(1, 0), 0);
        Due.is("look(7)", x.look(7), 1013904223);
    }

    @Says(promise = 7, words = "below it LOST is 0, FOUND one more")
    static void allSixteenAreFoundThingByThing() {
        SleightHouse x = new SleightHouse();
        x.person(0, 0);
        for (int i = 0; i < 16; i++) {
            x.thing(1, 0, 3);
            x.set(3, i, 1);
        }
        Due.tell(x, 0, "finds 1000;");
        Due.is("search(0, 3)", x.search(0, 3), 16);
        Due.is("FOUND", x.look(2), 16);
        Due.is("LOST", x.look(3), 0);
        for (int i = 0; i < 16; i++) {
            Due.is("book(" + (i + 1) + ", 2)", x.book(i + 1, 2), i);
        }
    }

    // Promise 8: by hand

    /** Done twice, and then what takes it back, twice. */
    private static void twiceEach(int what, int who) {
        SleightHouse x = Scenes.house();
        Due.is("it is not so at first", x.act(what + 1, who), false);
        Due.is("done", x.act(what, who), true);
        Due.is("it is so", x.act(what, who), false);
        Due.is("one to undo", x.look(12), 1);
        Due.is("taken back", x.act(what + 1, who), true);
        Due.is("it is so", x.act(what + 1, who), false);
        Due.is("two to undo", x.look(12), 2);
    }

    @Says(promise = 8, words = "false if it is so")
    static void whoIsTiedOrLooseIsNotMadeSoAgain() {
        twiceEach(0, 1);
    }

    @Says(promise = 8, words = "false if it is so")
    static void whatIsLockedOrOpenIsNotMadeSoAgain() {
        twiceEach(2, 11);
    }

    @Says(promise = 8, words = "false if it is so, there is none such, or another what")
    static void nobodySuchIsTiedOrLoosed() {
        SleightHouse x = Scenes.house();
        int[] people = {-1, 2, 11, MIN, MAX};
        for (int person : people) {
            Due.is("act(0, " + person + ")", x.act(0, person), false);
            Due.is("act(1, " + person + ")", x.act(1, person), false);
        }
        Due.is("look(12)", x.look(12), 0);
    }

    @Says(promise = 8, words = "false if it is so, there is none such, or another what")
    static void noSuchPlaceIsLockedOrOpened() {
        SleightHouse x = Scenes.house();
        int[] places = {-1, 12, MIN, MAX};
        for (int place : places) {
            Due.is("act(2, " + place + ")", x.act(2, place), false);
            Due.is("act(3, " + place + ")", x.act(3, place), false);
        }
        Due.is("look(4)", x.look(4), 0);
        Due.is("look(12)", x.look(12), 0);
    }

    @Says(promise = 8, words = "false if it is so, there is none such, or another what")
    static void anotherWhatIsNotDone() {
        SleightHouse x = Scenes.house();
        int[] others = {-1, 4, MIN, MAX};
        for (int what : others) {
            Due.is("act(" + what + ", 0)", x.act(what, 0), false);
        }
        Due.is("look(12)", x.look(12), 0);
    }

    @Says(promise = 8, words = "What 0 to TIE, 1 to LOOSE PERSON who, 2 to LOCK, 3 to OPEN PLACE who")
    static void allPlacesMayBeLocked() {
        SleightHouse x = new SleightHouse();
        for (int place = 0; place < 12; place++) {
            Due.is("act(2, " + place + ")", x.act(2, place), true);
        }
        Due.is("look(4)", x.look(4), 4095);
        Due.is("act(3, 0)", x.act(3, 0), true);
        Due.is("look(4)", x.look(4), 4094);
    }

    @Says(promise = 8, words = "What 0 to TIE, 1 to LOOSE PERSON who, 2 to LOCK, 3 to OPEN PLACE who")
    static void theTwelfthPersonMayBeTied() {
        SleightHouse x = Scenes.family(12, "");
        Due.is("act(0, 11)", x.act(0, 11), true);
        Due.is("who(11, 2)", x.who(11, 2), 1);
        Due.is("who(10, 2)", x.who(10, 2), 0);
        Due.is("act(0, 12)", x.act(0, 12), false);
    }

    // Promise 9: hours

    @Says(promise = 9, words = "HOURS go by (1 .. 60)")
    static void noHoursCantGoBy() {
        SleightHouse x = Scenes.house();
        int[] few = {0, -1, MIN};
        for (int n : few) {
            Due.is("hours(" + n + ")", x.hours(n), NONE);
        }
        Due.is("look(5)", x.look(5), 0);
        Due.is("look(12)", x.look(12), 0);
    }

    @Says(promise = 9, words = "HOURS go by (1 .. 60)")
    static void oneHourGoesBy() {
        SleightHouse x = Scenes.house();
        Due.is("hours(1)", x.hours(1), 0);
        Due.is("look(5)", x.look(5), 1);
    }

    @Says(promise = 9, words = "HOURS go by (1 .. 60)")
    static void sixtyHoursGoBy() {
        SleightHouse x = Scenes.house();
        Due.is("hours(60)", x.hours(60), 0);
        Due.is("look(5)", x.look(5), 60);
    }

    @Says(promise = 9, words = "HOURS go by (1 .. 60)")
    static void sixtyOneHoursCantGoBy() {
        SleightHouse x = Scenes.house();
        Due.is("hours(61)", x.hours(61), NONE);
        Due.is("hours(MAX)", x.hours(MAX), NONE);
        Due.is("look(5)", x.look(5), 0);
    }

    @Says(promise = 9, words = "or HOUR would be above 9999")
    static void theHourGoesTo9999AndNoFarther() {
        SleightHouse x = new SleightHouse();
        Scenes.waitHours(x, 9960);
        Due.is("hours(40)", x.hours(40), NONE);
        Due.is("nothing is done: look(5)", x.look(5), 9960);
        Due.is("hours(39)", x.hours(39), 0);
        Due.is("look(5)", x.look(5), 9999);
        Due.is("hours(1)", x.hours(1), NONE);
        Due.is("look(5)", x.look(5), 9999);
        Due.is("look(12)", x.look(12), 6);
    }

    @Says(promise = 9, words = "how many were palmed")
    static void allThatArePalmedInAllHoursAreCounted() {
        SleightHouse x = Scenes.houseWithLaw("palms 1000 when sleight = 9;palms 0;far 1;");
        Due.tell(x, 1, "at 0 person 0 puts 0 in 4;at 0 person 1 puts 1 in 6;at 0 person 0 puts 0 in 8;"
            + "at 59 person 0 puts 1 in 3;at 60 person 0 puts 1 in 3;");
        Due.is("twice at 0, once at 59: hours(60)", x.hours(60), 3);
        Due.is("once at 60: hours(1)", x.hours(1), 1);
        Due.is("no more: hours(60)", x.hours(60), 0);
    }

    @Says(promise = 9, words = "AN HOUR: line by line of CUSTOMS for it")
    static void linesForAnotherHourDoNothing() {
        SleightHouse x = Scenes.house();
        Due.tell(x, 2, "at 1 lock 3;");
        Due.tell(x, 1, "at 1 person 1 puts 0 in 5;");
        x.hours(1);
        Due.is("look(4)", x.look(4), 0);
        Due.is("of(0, 2)", x.of(0, 2), 0);
        x.hours(1);
        Due.is("look(4)", x.look(4), 8);
        Due.is("of(0, 2)", x.of(0, 2), 5);
    }

    @Says(promise = 9, words = "(HOUR 0 .. 999.)")
    static void linesForHour999AreForIt() {
        SleightHouse x = Scenes.house();
        Due.tell(x, 2, "at 999 lock 3;");
        Due.tell(x, 1, "at 999 person 1 puts 0 in 5;");
        Scenes.waitHours(x, 999);
        Due.is("look(4)", x.look(4), 0);
        Due.is("of(0, 2)", x.of(0, 2), 0);
        x.hours(1);
        Due.is("look(4)", x.look(4), 8);
        Due.is("of(0, 2)", x.of(0, 2), 5);
    }

    @Says(promise = 9, words = "AN HOUR: line by line of CUSTOMS for it")
    static void customsAreKeptInTheirOrder() {
        SleightHouse x = Scenes.house();
        Due.tell(x, 2, "at 0 lock 3;at 0 open 3;at 0 open 4;at 0 lock 4;at 0 tie 0;at 0 search 0 5;at 0 loose 0;at 0 search 0 6;");
        x.hours(1);
        Due.is("look(4)", x.look(4), 16);
        Due.is("who(0, 2)", x.who(0, 2), 0);
        Due.is("tied: place(5, 2)", x.place(5, 2), 0);
        Due.is("loose again: place(6, 2)", x.place(6, 2), 1);
    }

    @Says(promise = 9, words = "tie, loose: TIED 1, 0; lock, open: LOCK 1, 0")
    static void customsMayTellWhatIsSo() {
        SleightHouse x = Scenes.house();
        x.act(0, 0);
        x.act(2, 3);
        Due.tell(x, 2, "at 0 tie 0;at 0 loose 1;at 0 lock 3;at 0 open 4;");
        Due.is("hours(1)", x.hours(1), 0);
        Due.is("who(0, 2)", x.who(0, 2), 1);
        Due.is("who(1, 2)", x.who(1, 2), 0);
        Due.is("look(4)", x.look(4), 8);
    }

    @Says(promise = 9, words = "search: to SEARCH (if not TIED)")
    static void aCustomBringsNothingFromALockedPlace() {
        SleightHouse x = Scenes.houseWithLaw("finds 1000;");
        x.set(3, 0, 1);
        Due.tell(x, 2, "at 0 lock 0;at 0 search 1 0;at 1 open 0;at 1 search 1 0;");
        x.hours(1);
        Due.is("FOUND", x.look(2), 0);
        Due.is("SEARCHED", x.place(0, 2), 1);
        x.hours(1);
        Due.is("FOUND", x.look(2), 1);
        Due.is("SEARCHED", x.place(0, 2), 2);
    }

    @Says(promise = 9, words = "Then line by line of SUPPER for it: to PUT (if it can be)")
    static void customsComeAheadOfSupper() {
        SleightHouse x = Scenes.house();
        Due.tell(x, 2, "at 0 tie 0;at 0 lock 7;");
        Due.tell(x, 1, "at 0 person 0 puts 0 in 4;at 0 person 1 puts 0 in 7;at 0 person 1 puts 1 in 4;");
        x.hours(1);
        Due.is("tied, locked: of(0, 2)", x.of(0, 2), 0);
        Due.is("of(1, 2)", x.of(1, 2), 4);
        Due.is("the book", x.look(6), 1);
    }

    @Says(promise = 9, words = "Then line by line of SUPPER for it: to PUT (if it can be)")
    static void supperPutsInItsOrderAsFarAsThereIsRoom() {
        SleightHouse x = Scenes.house();
        Due.tell(x, 1, "at 0 person 1 puts 2 in 1;at 0 person 1 puts 1 in 4;at 0 person 1 puts 2 in 1;");
        x.hours(1);
        Due.is("first no room, then room: of(2, 2)", x.of(2, 2), 1);
        Due.is("of(2, 3)", x.of(2, 3), 1);
    }

    @Says(promise = 9, words = "HOUR is one more")
    static void theHourIsOneMoreAtTheEndOfIt() {
        SleightHouse x = Scenes.houseWithLaw("palms 1000 when hour = 3;palms 0;far 1;");
        Due.tell(x, 1, "at 3 person 0 puts 0 in 4;");
        Due.is("hours(3)", x.hours(3), 0);
        Due.is("hours(1)", x.hours(1), 1);
        Due.is("book(0, 0)", x.book(0, 0), 3);
        Due.is("look(5)", x.look(5), 4);
    }

    @Says(promise = 9, words = "16 lines of each at most")
    static void sixteenLinesOfEachAreKeptInAnHour() {
        SleightHouse x = Scenes.house();
        Due.tell(x, 2, "at 0 search 1 5;".repeat(16));
        Due.tell(x, 1, "at0person1puts0in3;".repeat(16));
        x.hours(1);
        Due.is("place(5, 2)", x.place(5, 2), 16);
        Due.is("of(0, 3)", x.of(0, 3), 16);
    }

    // Promise 9: what falls

    /** Things of size 5, 4 and 1 in place 3. */
    private static SleightHouse threeIn3(int room) {
        SleightHouse x = new SleightHouse();
        x.thing(5, 0, 3);
        x.thing(4, 0, 3);
        x.thing(1, 0, 3);
        x.set(0, 3, room);
        return x;
    }

    @Says(promise = 9, words = "is FULL above ROOM: its THINGS fall out")
    static void whereItIsJustFullNothingFalls() {
        SleightHouse x = threeIn3(10);
        x.hours(1);
        Due.is("place(3, 4)", x.place(3, 4), 7);
        Due.is("look(3)", x.look(3), 0);
        Due.is("the book", x.look(6), 0);
    }

    @Says(promise = 9, words = "the greatest number first, till it is not")
    static void whereItIsOneTooFullTheGreatestNumberFalls() {
        SleightHouse x = threeIn3(9);
        x.hours(1);
        Due.is("place(3, 4)", x.place(3, 4), 3);
        Due.is("place(4, 4)", x.place(4, 4), 4);
        Due.is("look(3)", x.look(3), 4);
    }

    @Says(promise = 9, words = "the greatest number first, till it is not")
    static void theyFallTillItIsNotTooFull() {
        SleightHouse x = threeIn3(5);
        x.hours(1);
        Due.is("just full again: place(3, 4)", x.place(3, 4), 1);
        Due.is("place(4, 4)", x.place(4, 4), 6);
        Due.is("book(0, 2)", x.book(0, 2), 2);
        Due.is("book(1, 2)", x.book(1, 2), 1);
    }

    @Says(promise = 9, words = "the greatest number first, till it is not")
    static void outOfAPlaceWithoutRoomAllFall() {
        SleightHouse x = threeIn3(0);
        x.set(0, 4, 10);
        x.hours(1);
        Due.is("place(3, 4)", x.place(3, 4), 0);
        Due.is("place(4, 4)", x.place(4, 4), 7);
    }

    @Says(promise = 9, words = "each one goes to the next PLACE (behind 11 comes 0")
    static void whatFallsOutOf11GoesTo0() {
        SleightHouse x = new SleightHouse();
        x.thing(9, 0, 11);
        x.set(0, 11, 8);
        x.hours(1);
        Due.is("of(0, 2)", x.of(0, 2), 0);
        Due.is("book(0, 3)", x.book(0, 3), 0);
    }

    @Says(promise = 9, words = "Then PLACE by PLACE: is FULL above ROOM")
    static void whatFallsTo0FallsOnInTheNextHour() {
        SleightHouse x = new SleightHouse();
        x.thing(9, 0, 11);
        x.set(0, 11, 8);
        x.set(0, 0, 8);
        x.hours(1);
        Due.is("of(0, 2)", x.of(0, 2), 0);
        x.hours(1);
        Due.is("of(0, 2)", x.of(0, 2), 1);
    }

    @Says(promise = 9, words = "whether it has ROOM or not")
    static void theNextPlaceMayBecomeTooFull() {
        SleightHouse x = new SleightHouse();
        x.thing(9, 0, 3);
        x.thing(9, 0, 4);
        x.set(0, 3, 0);
        x.hours(1);
        Due.is("of(0, 2)", x.of(0, 2), 4);
        Due.is("out of 4 the greatest number: of(1, 2)", x.of(1, 2), 5);
        Due.is("look(3)", x.look(3), 3);
    }

    @Says(promise = 9, words = "Then PLACE by PLACE: is FULL above ROOM")
    static void whereThereIsNoRoomAtAllItFallsAround() {
        SleightHouse x = new SleightHouse();
        x.thing(1, 0, 0);
        for (int place = 0; place < 12; place++) {
            x.set(0, place, 0);
        }
        x.hours(1);
        Due.is("of(0, 2)", x.of(0, 2), 0);
        Due.is("twelve lines", x.look(6), 12);
        Due.is("MOVED", x.of(0, 3), 0);
    }

    @Says(promise = 9, words = "whether it has ROOM or not), LOST 1")
    static void whatFellIsLostButNotMoved() {
        SleightHouse x = threeIn3(9);
        x.hours(1);
        Due.is("LOST", x.of(2, 4), 1);
        Due.is("MOVED", x.of(2, 3), 0);
        Due.is("not found", x.look(2), 0);
    }

    @Says(promise = 9, words = "each one goes to the next PLACE")
    static void locksDoNotHoldWhatFalls() {
        SleightHouse x = threeIn3(9);
        x.act(2, 3);
        x.act(2, 4);
        x.hours(1);
        Due.is("of(2, 2)", x.of(2, 2), 4);
    }

    @Says(promise = 9, words = "Then PLACE by PLACE: is FULL above ROOM")
    static void whatSupperTakesOutDoesNotFall() {
        SleightHouse x = threeIn3(9);
        x.person(0, 0);
        Due.tell(x, 1, "at 0 person 0 puts 0 in 7;");
        x.hours(1);
        Due.is("place(3, 4)", x.place(3, 4), 6);
        Due.is("look(3)", x.look(3), 0);
    }

    @Says(promise = 9, words = "how many were palmed")
    static void whatFallsIsNotCountedAsPalmed() {
        Due.is("hours(1)", threeIn3(0).hours(1), 0);
    }
}
