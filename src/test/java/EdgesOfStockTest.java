import java.io.IOException;

/** Boundary cases of promises 1 to 5 and 14 to 16: what a house holds, and what is asked of it. */
public final class EdgesOfStockTest {
    private static final int NONE = SleightHouse.NONE;
    private static final int MIN = Integer.MIN_VALUE;
    private static final int MAX = Integer.MAX_VALUE;

    private EdgesOfStockTest() {
    }

    public static void main(String[] args) throws IOException, IllegalAccessException {
        Cases.run(EdgesOfStockTest.class);
    }

    private static SleightHouse fullHouse() {
        SleightHouse x = new SleightHouse();
        for (int i = 0; i < 16; i++) {
            x.thing(9, 0, 11);
        }
        for (int i = 0; i < 12; i++) {
            x.person(0, 0);
        }
        return x;
    }

    // Promise 1

    @Says(promise = 1, words = "`NONE = -1`: None.")
    static void noneIsMinus1() {
        Due.is("NONE", SleightHouse.NONE, -1);
    }

    @Says(promise = 1, words = "ROOM 0 .. 99 (9 at first)")
    static void eachPlaceHasRoom9AtFirst() {
        SleightHouse x = new SleightHouse();
        for (int place = 0; place < 12; place++) {
            Due.is("place(" + place + ", 0)", x.place(place, 0), 9);
        }
    }

    @Says(promise = 1, words = "LOCK 0, 1 (0 at first)")
    static void noPlaceIsLockedAtFirst() {
        SleightHouse x = new SleightHouse();
        for (int place = 0; place < 12; place++) {
            Due.is("place(" + place + ", 1)", x.place(place, 1), 0);
        }
        Due.is("look(4)", x.look(4), 0);
    }

    @Says(promise = 1, words = "SEARCHED (how often, an int, 0 at first)")
    static void noPlaceIsSearchedAtFirst() {
        SleightHouse x = new SleightHouse();
        for (int place = 0; place < 12; place++) {
            Due.is("place(" + place + ", 2)", x.place(place, 2), 0);
        }
    }

    @Says(promise = 1, words = "Empty places.")
    static void placesAreEmptyAtFirst() {
        SleightHouse x = new SleightHouse();
        for (int place = 0; place < 12; place++) {
            Due.is("place(" + place + ", 3)", x.place(place, 3), 0);
            Due.is("place(" + place + ", 4)", x.place(place, 4), 0);
        }
        Due.is("look(0)", x.look(0), 0);
        Due.is("look(1)", x.look(1), 0);
    }

    @Says(promise = 1, words = "FOUND (how many, an int, 0 at first)")
    static void nothingIsFoundAtFirst() {
        Due.is("look(2)", new SleightHouse().look(2), 0);
        Due.is("look(3)", new SleightHouse().look(3), 0);
    }

    @Says(promise = 1, words = "HOUR 0 .. 9999 (0 at first)")
    static void theHourIs0AtFirst() {
        Due.is("look(5)", new SleightHouse().look(5), 0);
    }

    @Says(promise = 1, words = "STATE of draws (an int, 0 at first)")
    static void theStateIs0AtFirst() {
        Due.is("look(7)", new SleightHouse().look(7), 0);
    }

    @Says(promise = 1, words = "TEXTS (empty at first)")
    static void textsAreEmptyAtFirst() {
        SleightHouse x = new SleightHouse();
        for (int what = 8; what <= 11; what++) {
            Due.is("look(" + what + ")", x.look(what), 0);
        }
        Due.is("the tape too: end(1)", x.end(1), false);
    }

    @Says(promise = 1, words = "2 not told; 2 at first")
    static void noGiftIsToldAtFirst() {
        SleightHouse x = new SleightHouse();
        x.person(0, 0);
        Due.is("heir(-1)", x.heir(NONE), 3);
    }

    @Says(promise = 1, words = "0 none, 1 /, 2 \\; 0 at first")
    static void noMirrorIsToldAtFirst() {
        SleightHouse x = new SleightHouse();
        for (int edge = 0; edge < 24; edge++) {
            Due.is("glance(" + edge + ", 1)", x.glance(edge, 1), 0);
        }
    }

    @Says(promise = 1, words = "Empty places.")
    static void nothingIsToldForThoughtAtFirst() {
        SleightHouse x = new SleightHouse();
        Due.is("no change: swap(0, 1) is the first", x.swap(0, 1), 1);
        Due.is("no pick: pick(0) is the first", x.pick(0), 1);
        Due.is("no box: box(1, 1) is the first", x.box(1, 1), 1);
        Due.is("no key: key(0, 1) is the first", x.key(0, 1), 1);
        Due.is("no clue: clue(0, 0, true) is the first", x.clue(0, 0, true), 1);
        Due.is("no share: share(1) is the first", x.share(1), 1);
        Due.is("no row: row(1) is the first", x.row(1), 1);
    }

    @Says(promise = 1, words = "Empty places.")
    static void aNewObjectKnowsNothingOfAnother() {
        SleightHouse one = fullHouse();
        one.image(true);
        one.state(7);
        SleightHouse other = new SleightHouse();
        Due.is("look(0)", other.look(0), 0);
        Due.is("look(7)", other.look(7), 0);
        Due.is("image(false)", other.image(false), false);
    }

    // Promise 2

    @Says(promise = 2, words = "STATE is told: what it was.")
    static void stateTellsWhatItWas() {
        SleightHouse x = new SleightHouse();
        Due.is("state(5)", x.state(5), 0);
        Due.is("state(6)", x.state(6), 5);
        Due.is("look(7)", x.look(7), 6);
    }

    @Says(promise = 2, words = "STATE of draws (an int, 0 at first)")
    static void anyIntMayBeState() {
        SleightHouse x = new SleightHouse();
        int[] states = {MIN, -1, 0, 1, MAX};
        int was = 0;
        for (int state : states) {
            Due.is("state(" + state + ")", x.state(state), was);
            Due.is("look(7)", x.look(7), state);
            was = state;
        }
    }

    @Says(promise = 2, words = "it becomes 1664525 times itself + 1013904223 (ints, which wrap)")
    static void theStateWrapsAround() {
        int[][] rows = {{0, 1013904223}, {1, 1015568748}, {MAX, -1135243950}, {MIN, -1133579425}, {-1, 1012239698}};
        for (int[] row : rows) {
            SleightHouse x = Scenes.houseWithLaw("palms 1;far 1;");
            x.state(row[0]);
            x.puts(0, 0, 4);
            Due.is("look(7) behind a draw from " + row[0], x.look(7), row[1]);
        }
    }

    @Says(promise = 2, words = "then it is its highest 24 bits (without sign) modulo m")
    static void aDrawIsWithoutSign() {
        int state = 0;
        while (Scenes.next(state) >= 0 || Scenes.draw(state, 1000) < 2 || Scenes.draw(state, 1000) > 998) {
            state++;
        }
        int draw = Scenes.draw(state, 1000);
        SleightHouse x = Scenes.houseWithLaw("palms " + draw + ";far 1;");
        x.state(state);
        Due.is("not below it", x.puts(0, 0, 4), 4);
        x = Scenes.houseWithLaw("palms " + (draw + 1) + ";far 1;");
        x.state(state);
        Due.is("one below it", x.puts(0, 0, 4), 5);
    }

    @Says(promise = 2, words = "then it is its highest 24 bits (without sign) modulo m")
    static void aDrawIsTheHighest24BitsModulo1000() {
        // 1013904223 is 3960563 times 256 and more: the draw from 0 is 563.
        SleightHouse x = Scenes.houseWithLaw("palms 563;far 1;");
        Due.is("563 is not below 563", x.puts(0, 0, 4), 4);
        x = Scenes.houseWithLaw("palms 564;far 1;");
        Due.is("563 is below 564", x.puts(0, 0, 4), 5);
    }

    // Promise 3

    @Says(promise = 3, words = "SIZE 1 .. 9")
    static void aThingOfSize0CantBe() {
        Due.is("thing(0, 0, 0)", new SleightHouse().thing(0, 0, 0), NONE);
    }

    @Says(promise = 3, words = "SIZE 1 .. 9")
    static void aThingOfSize1CanBe() {
        SleightHouse x = new SleightHouse();
        Due.is("thing(1, 0, 0)", x.thing(1, 0, 0), 0);
        Due.is("of(0, 0)", x.of(0, 0), 1);
    }

    @Says(promise = 3, words = "SIZE 1 .. 9")
    static void aThingOfSize9CanBe() {
        SleightHouse x = new SleightHouse();
        Due.is("thing(9, 0, 0)", x.thing(9, 0, 0), 0);
        Due.is("of(0, 0)", x.of(0, 0), 9);
    }

    @Says(promise = 3, words = "SIZE 1 .. 9")
    static void aThingOfSize10CantBe() {
        Due.is("thing(10, 0, 0)", new SleightHouse().thing(10, 0, 0), NONE);
    }

    @Says(promise = 3, words = "WORTH 0 .. 999")
    static void aThingOfWorthBelow0CantBe() {
        Due.is("thing(1, -1, 0)", new SleightHouse().thing(1, -1, 0), NONE);
    }

    @Says(promise = 3, words = "WORTH 0 .. 999")
    static void aThingOfWorth0CanBe() {
        SleightHouse x = new SleightHouse();
        Due.is("thing(1, 0, 0)", x.thing(1, 0, 0), 0);
        Due.is("of(0, 1)", x.of(0, 1), 0);
    }

    @Says(promise = 3, words = "WORTH 0 .. 999")
    static void aThingOfWorth999CanBe() {
        SleightHouse x = new SleightHouse();
        Due.is("thing(1, 999, 0)", x.thing(1, 999, 0), 0);
        Due.is("of(0, 1)", x.of(0, 1), 999);
    }

    @Says(promise = 3, words = "WORTH 0 .. 999")
    static void aThingOfWorth1000CantBe() {
        Due.is("thing(1, 1000, 0)", new SleightHouse().thing(1, 1000, 0), NONE);
    }

    @Says(promise = 3, words = "PLACES 0 .. 11")
    static void aThingInNoPlaceCantBe() {
        SleightHouse x = new SleightHouse();
        Due.is("thing(1, 0, -1)", x.thing(1, 0, -1), NONE);
        Due.is("thing(1, 0, 12)", x.thing(1, 0, 12), NONE);
    }

    @Says(promise = 3, words = "PLACES 0 .. 11")
    static void aThingCanBeInTheFirstAndTheLastPlace() {
        SleightHouse x = new SleightHouse();
        Due.is("thing(1, 0, 0)", x.thing(1, 0, 0), 0);
        Due.is("thing(1, 0, 11)", x.thing(1, 0, 11), 1);
        Due.is("of(0, 2)", x.of(0, 2), 0);
        Due.is("of(1, 2)", x.of(1, 2), 11);
    }

    @Says(promise = 3, words = "NONE if one can't be, or there are sixteen")
    static void farBeyondEveryBoundNoThingCanBe() {
        SleightHouse x = new SleightHouse();
        int[] far = {MIN, MAX};
        for (int v : far) {
            Due.is("thing(" + v + ", 0, 0)", x.thing(v, 0, 0), NONE);
            Due.is("thing(1, " + v + ", 0)", x.thing(1, v, 0), NONE);
            Due.is("thing(1, 0, " + v + ")", x.thing(1, 0, v), NONE);
        }
    }

    @Says(promise = 3, words = "NONE if one can't be, or there are sixteen")
    static void theSixteenthThingIsTheLast() {
        SleightHouse x = new SleightHouse();
        for (int i = 0; i < 16; i++) {
            Due.is("thing " + i, x.thing(1, 0, 0), i);
        }
        Due.is("the 17th", x.thing(1, 0, 0), NONE);
        Due.is("look(0)", x.look(0), 16);
    }

    @Says(promise = 3, words = "IN any PLACE, whatever its ROOM")
    static void aThingMayComeIntoAPlaceWithoutRoom() {
        SleightHouse x = new SleightHouse();
        x.set(0, 5, 0);
        Due.is("thing(9, 0, 5)", x.thing(9, 0, 5), 0);
        Due.is("thing(9, 0, 5)", x.thing(9, 0, 5), 1);
        Due.is("place(5, 3)", x.place(5, 3), 18);
    }

    @Says(promise = 3, words = "IN any PLACE, whatever its ROOM")
    static void aThingMayComeIntoALockedPlace() {
        SleightHouse x = new SleightHouse();
        x.act(2, 5);
        Due.is("thing(9, 0, 5)", x.thing(9, 0, 5), 0);
        Due.is("of(0, 2)", x.of(0, 2), 5);
    }

    @Says(promise = 3, words = "MOVED (how often, an int, 0 at first)")
    static void aNewThingHasNotMoved() {
        SleightHouse x = new SleightHouse();
        x.thing(1, 0, 0);
        Due.is("of(0, 3)", x.of(0, 3), 0);
    }

    @Says(promise = 3, words = "LOST 0, 1 (0 at first: its PLACE is known)")
    static void aNewThingIsNotLost() {
        SleightHouse x = new SleightHouse();
        x.thing(1, 0, 0);
        Due.is("of(0, 4)", x.of(0, 4), 0);
    }

    @Says(promise = 3, words = "NONE if one can't be, or there are sixteen")
    static void aRefusedThingChangesNothing() {
        SleightHouse x = fullHouse();
        x.act(2, 0);
        x.thing(1, 0, 0);
        x.thing(0, 0, 0);
        Due.is("look(0)", x.look(0), 16);
        Due.is("place(0, 4)", x.place(0, 4), 0);
        Due.is("nothing is forgotten: look(12)", x.look(12), 1);
    }

    // Promise 4

    @Says(promise = 4, words = "SLEIGHT 0 .. 9")
    static void aPersonOfSleightBelow0CantBe() {
        Due.is("person(-1, 0)", new SleightHouse().person(-1, 0), NONE);
    }

    @Says(promise = 4, words = "SLEIGHT 0 .. 9")
    static void aPersonOfSleight0And9CanBe() {
        SleightHouse x = new SleightHouse();
        Due.is("person(0, 5)", x.person(0, 5), 0);
        Due.is("person(9, 5)", x.person(9, 5), 1);
        Due.is("who(0, 0)", x.who(0, 0), 0);
        Due.is("who(1, 0)", x.who(1, 0), 9);
    }

    @Says(promise = 4, words = "SLEIGHT 0 .. 9")
    static void aPersonOfSleight10CantBe() {
        Due.is("person(10, 0)", new SleightHouse().person(10, 0), NONE);
    }

    @Says(promise = 4, words = "WITS 0 .. 9")
    static void aPersonOfWitsBelow0CantBe() {
        Due.is("person(0, -1)", new SleightHouse().person(0, -1), NONE);
    }

    @Says(promise = 4, words = "WITS 0 .. 9")
    static void aPersonOfWits0And9CanBe() {
        SleightHouse x = new SleightHouse();
        Due.is("person(5, 0)", x.person(5, 0), 0);
        Due.is("person(5, 9)", x.person(5, 9), 1);
        Due.is("who(0, 1)", x.who(0, 1), 0);
        Due.is("who(1, 1)", x.who(1, 1), 9);
    }

    @Says(promise = 4, words = "WITS 0 .. 9")
    static void aPersonOfWits10CantBe() {
        Due.is("person(0, 10)", new SleightHouse().person(0, 10), NONE);
    }

    @Says(promise = 4, words = "NONE if one can't be, or there are twelve")
    static void farBeyondEveryBoundNobodyCanBe() {
        SleightHouse x = new SleightHouse();
        int[] far = {MIN, MAX};
        for (int v : far) {
            Due.is("person(" + v + ", 0)", x.person(v, 0), NONE);
            Due.is("person(0, " + v + ")", x.person(0, v), NONE);
        }
    }

    @Says(promise = 4, words = "NONE if one can't be, or there are twelve")
    static void theTwelfthPersonIsTheLast() {
        SleightHouse x = new SleightHouse();
        for (int i = 0; i < 12; i++) {
            Due.is("person " + i, x.person(1, 1), i);
        }
        Due.is("the 13th", x.person(1, 1), NONE);
        Due.is("look(1)", x.look(1), 12);
    }

    @Says(promise = 4, words = "TIED 0, 1 (0 at first)")
    static void aNewPersonIsNotTied() {
        SleightHouse x = new SleightHouse();
        x.person(1, 1);
        Due.is("who(0, 2)", x.who(0, 2), 0);
    }

    @Says(promise = 4, words = "PALMED (how often, an int, 0 at first)")
    static void aNewPersonHasPalmedNothing() {
        SleightHouse x = new SleightHouse();
        x.person(1, 1);
        Due.is("who(0, 3)", x.who(0, 3), 0);
    }

    @Says(promise = 4, words = "NONE if one can't be, or there are twelve")
    static void aRefusedPersonChangesNothing() {
        SleightHouse x = fullHouse();
        x.act(2, 0);
        x.person(1, 1);
        x.person(10, 0);
        Due.is("look(1)", x.look(1), 12);
        Due.is("nothing is forgotten: look(12)", x.look(12), 1);
    }

    // Promise 5

    /** The least and the most are told, one below and one above are not. */
    private static void bounds(int what, int least, int most) {
        SleightHouse x = Scenes.house();
        Due.is("the least", x.set(what, 1, least), true);
        Due.is("it is told", told(x, what, 1), least);
        Due.is("below", x.set(what, 1, least - 1), false);
        Due.is("it stays", told(x, what, 1), least);
        Due.is("the most", x.set(what, 1, most), true);
        Due.is("it is told", told(x, what, 1), most);
        Due.is("above", x.set(what, 1, most + 1), false);
        Due.is("far below", x.set(what, 1, MIN), false);
        Due.is("far above", x.set(what, 1, MAX), false);
        Due.is("it stays", told(x, what, 1), most);
    }

    private static int told(SleightHouse x, int what, int who) {
        if (what == 0) {
            return x.place(who, 0);
        }
        return what <= 3 ? x.of(who, what == 3 ? 4 : what - 1) : x.who(who, what - 4);
    }

    private static void noneSuch(int what, int count, int v) {
        SleightHouse x = Scenes.house();
        Due.is("the last one", x.set(what, count - 1, v), true);
        Due.is("one behind it", x.set(what, count, v), false);
        Due.is("one ahead of 0", x.set(what, -1, v), false);
        Due.is("far behind", x.set(what, MAX, v), false);
        Due.is("far ahead", x.set(what, MIN, v), false);
    }

    @Says(promise = 5, words = "ROOM 0 .. 99")
    static void roomIsSetFrom0To99() {
        bounds(0, 0, 99);
    }

    @Says(promise = 5, words = "What 0 ROOM of PLACE who")
    static void roomIsSetOfAPlaceThatThereIs() {
        noneSuch(0, 12, 5);
    }

    @Says(promise = 5, words = "SIZE 1 .. 9")
    static void sizeIsSetFrom1To9() {
        bounds(1, 1, 9);
    }

    @Says(promise = 5, words = "1 SIZE, 2 WORTH, 3 LOST of THING who")
    static void sizeIsSetOfAThingThatThereIs() {
        noneSuch(1, 3, 5);
    }

    @Says(promise = 5, words = "WORTH 0 .. 999")
    static void worthIsSetFrom0To999() {
        bounds(2, 0, 999);
    }

    @Says(promise = 5, words = "1 SIZE, 2 WORTH, 3 LOST of THING who")
    static void worthIsSetOfAThingThatThereIs() {
        noneSuch(2, 3, 5);
    }

    @Says(promise = 5, words = "LOST 0, 1")
    static void lostIsSetTo0Or1() {
        bounds(3, 0, 1);
    }

    @Says(promise = 5, words = "1 SIZE, 2 WORTH, 3 LOST of THING who")
    static void lostIsSetOfAThingThatThereIs() {
        noneSuch(3, 3, 1);
    }

    @Says(promise = 5, words = "SLEIGHT 0 .. 9")
    static void sleightIsSetFrom0To9() {
        bounds(4, 0, 9);
    }

    @Says(promise = 5, words = "4 SLEIGHT, 5 WITS of PERSON who")
    static void sleightIsSetOfAPersonThatThereIs() {
        noneSuch(4, 2, 5);
    }

    @Says(promise = 5, words = "WITS 0 .. 9")
    static void witsAreSetFrom0To9() {
        bounds(5, 0, 9);
    }

    @Says(promise = 5, words = "4 SLEIGHT, 5 WITS of PERSON who")
    static void witsAreSetOfAPersonThatThereIs() {
        noneSuch(5, 2, 5);
    }

    @Says(promise = 5, words = "false if one can't be, or another what")
    static void anotherWhatSetsNothing() {
        SleightHouse x = Scenes.house();
        int[] others = {-1, 6, MIN, MAX};
        for (int what : others) {
            Due.is("set(" + what + ", 0, 1)", x.set(what, 0, 1), false);
        }
    }

    @Says(promise = 5, words = "false if one can't be, or another what")
    static void aRefusedSetForgetsNothing() {
        SleightHouse x = Scenes.house();
        x.act(2, 0);
        x.set(0, 0, 100);
        x.set(1, 3, 1);
        x.set(6, 0, 1);
        Due.is("look(12)", x.look(12), 1);
    }

    @Says(promise = 5, words = "What 0 ROOM of PLACE who")
    static void roomMayBeSetBelowWhatLiesThere() {
        SleightHouse x = Scenes.house();
        Due.is("set(0, 2, 0)", x.set(0, 2, 0), true);
        Due.is("place(2, 3)", x.place(2, 3), 9);
        Due.is("of(2, 2)", x.of(2, 2), 2);
    }

    // Promise 14

    @Says(promise = 14, words = "NONE if there is none such, or another what")
    static void ofNoSuchPlaceNothingIsTold() {
        SleightHouse x = Scenes.house();
        int[] places = {-1, 12, MIN, MAX};
        for (int place : places) {
            for (int what = 0; what <= 4; what++) {
                Due.is("place(" + place + ", " + what + ")", x.place(place, what), NONE);
            }
        }
    }

    @Says(promise = 14, words = "NONE if there is none such, or another what")
    static void ofAPlaceAnotherWhatIsNone() {
        SleightHouse x = Scenes.house();
        int[] others = {-1, 5, MIN, MAX};
        for (int what : others) {
            Due.is("place(0, " + what + ")", x.place(0, what), NONE);
        }
    }

    @Says(promise = 14, words = "4 its THINGS (a set)")
    static void allSixteenThingsInOnePlace() {
        SleightHouse x = fullHouse();
        Due.is("place(11, 4)", x.place(11, 4), 65535);
        Due.is("place(11, 3)", x.place(11, 3), 144);
        Due.is("place(10, 4)", x.place(10, 4), 0);
        Due.is("place(10, 3)", x.place(10, 3), 0);
    }

    @Says(promise = 14, words = "Of a PLACE what 0 ROOM, 1 LOCK, 2 SEARCHED, 3 FULL, 4 its THINGS (a set)")
    static void theLastPlaceIsAPlace() {
        SleightHouse x = Scenes.house();
        x.set(0, 11, 42);
        x.search(0, 11);
        x.act(2, 11);
        Due.is("place(11, 0)", x.place(11, 0), 42);
        Due.is("place(11, 1)", x.place(11, 1), 1);
        Due.is("place(11, 2)", x.place(11, 2), 1);
    }

    // Promise 15

    @Says(promise = 15, words = "NONE if there is none such, or another what")
    static void ofNoSuchThingNothingIsTold() {
        SleightHouse x = Scenes.house();
        int[] things = {-1, 3, 15, 16, MIN, MAX};
        for (int thing : things) {
            for (int what = 0; what <= 4; what++) {
                Due.is("of(" + thing + ", " + what + ")", x.of(thing, what), NONE);
            }
        }
    }

    @Says(promise = 15, words = "NONE if there is none such, or another what")
    static void ofAThingAnotherWhatIsNone() {
        SleightHouse x = Scenes.house();
        int[] others = {-1, 5, MIN, MAX};
        for (int what : others) {
            Due.is("of(0, " + what + ")", x.of(0, what), NONE);
        }
    }

    @Says(promise = 15, words = "THINGS 0 .. 15 as they come")
    static void theSixteenthThingIsAThing() {
        SleightHouse x = fullHouse();
        Due.is("of(15, 0)", x.of(15, 0), 9);
        Due.is("of(15, 2)", x.of(15, 2), 11);
        Due.is("of(16, 0)", x.of(16, 0), NONE);
    }

    // Promise 16

    @Says(promise = 16, words = "NONE if there is none such, or another what")
    static void ofNobodyNothingIsTold() {
        SleightHouse x = Scenes.house();
        int[] people = {-1, 2, 11, 12, MIN, MAX};
        for (int person : people) {
            for (int what = 0; what <= 4; what++) {
                Due.is("who(" + person + ", " + what + ")", x.who(person, what), NONE);
            }
        }
    }

    @Says(promise = 16, words = "NONE if there is none such, or another what")
    static void ofAPersonAnotherWhatIsNone() {
        SleightHouse x = Scenes.house();
        int[] others = {-1, 5, MIN, MAX};
        for (int what : others) {
            Due.is("who(0, " + what + ")", x.who(0, what), NONE);
        }
    }

    @Says(promise = 16, words = "PEOPLE 0 .. 11 as they come")
    static void theTwelfthPersonIsAPerson() {
        SleightHouse x = fullHouse();
        Due.is("who(11, 0)", x.who(11, 0), 0);
        Due.is("who(12, 0)", x.who(12, 0), NONE);
    }

    @Says(promise = 16, words = "4 parents by LINE (a set)")
    static void withoutLineTheSetOfParentsIsEmpty() {
        Due.is("who(0, 4)", Scenes.house().who(0, 4), 0);
    }

    @Says(promise = 16, words = "4 parents by LINE (a set)")
    static void theLastPersonAsAParent() {
        SleightHouse x = Scenes.family(12, "person 0 child of 11;person 0 child of 10;person 11 child of 0;");
        Due.is("who(0, 4)", x.who(0, 4), 3072);
        Due.is("who(11, 4)", x.who(11, 4), 1);
        Due.is("who(10, 4)", x.who(10, 4), 0);
    }

    @Says(promise = 16, words = "4 parents by LINE (a set)")
    static void oneParentToldTwiceIsOnceInTheSet() {
        SleightHouse x = Scenes.family(2, "person 0 child of 1;person 0 child of 1;");
        Due.is("who(0, 4)", x.who(0, 4), 2);
    }

    @Says(promise = 16, words = "4 parents by LINE (a set)")
    static void anEmptyLineTakesParentsAway() {
        SleightHouse x = Scenes.family(2, "person 0 child of 1;");
        Due.is("text(3)", x.text(3), 0);
        Due.is("who(0, 4)", x.who(0, 4), 0);
    }
}
