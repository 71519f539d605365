import java.io.IOException;

/** Boundary cases of promises 44 to 46: what is undone, the image, and what is looked at. */
public final class EdgesOfPastTest {
    private static final int NONE = SleightHouse.NONE;
    private static final int MIN = Integer.MIN_VALUE;
    private static final int MAX = Integer.MAX_VALUE;

    private EdgesOfPastTest() {
    }

    public static void main(String[] args) throws IOException, IllegalAccessException {
        Cases.run(EdgesOfPastTest.class);
    }

    /** A house in which one thing can be undone. */
    private static SleightHouse lockedHouse() {
        SleightHouse x = Scenes.house();
        x.act(2, 0);
        return x;
    }

    // Promise 44

    @Says(promise = 44, words = "UNDO: true; false if there is nothing")
    static void inANewHouseNothingIsUndone() {
        SleightHouse x = new SleightHouse();
        Due.is("undo()", x.undo(), false);
        Due.is("look(12)", x.look(12), 0);
    }

    @Says(promise = 44, words = "UNDO: true; false if there is nothing")
    static void eachIsUndoneOnce() {
        SleightHouse x = lockedHouse();
        Due.is("undo()", x.undo(), true);
        Due.is("look(4)", x.look(4), 0);
        Due.is("undo()", x.undo(), false);
        Due.is("look(4)", x.look(4), 0);
    }

    @Says(promise = 44, words = "not undone yet goes back (STATE, THE BOOK, too): 6 are kept")
    static void sixAreKept() {
        SleightHouse x = Scenes.house();
        for (int place = 0; place < 6; place++) {
            x.act(2, place);
            Due.is("look(12)", x.look(12), place + 1);
        }
        for (int i = 5; i >= 0; i--) {
            Due.is("undo()", x.undo(), true);
            Due.is("look(12)", x.look(12), i);
            Due.is("look(4)", x.look(4), (1 << i) - 1);
        }
        Due.is("the 7th", x.undo(), false);
    }

    @Says(promise = 44, words = "not undone yet goes back (STATE, THE BOOK, too): 6 are kept")
    static void theSeventhDrivesTheFirstOut() {
        SleightHouse x = Scenes.house();
        for (int place = 0; place < 7; place++) {
            x.act(2, place);
        }
        Due.is("look(12)", x.look(12), 6);
        for (int i = 0; i < 6; i++) {
            Due.is("undo()", x.undo(), true);
        }
        Due.is("the first stays: look(4)", x.look(4), 1);
        Due.is("undo()", x.undo(), false);
        Due.is("look(4)", x.look(4), 1);
    }

    @Says(promise = 44, words = "not undone yet goes back (STATE, THE BOOK, too): 6 are kept")
    static void behindUndoThereIsRoomForMore() {
        SleightHouse x = Scenes.house();
        for (int place = 0; place < 9; place++) {
            x.act(2, place);
        }
        x.undo();
        x.undo();
        x.act(2, 9);
        x.act(2, 10);
        x.act(2, 11);
        Due.is("look(12)", x.look(12), 6);
        Due.is("look(4)", x.look(4), 0b111001111111);
        for (int i = 0; i < 6; i++) {
            x.undo();
        }
        Due.is("look(4)", x.look(4), 0b000000001111);
        Due.is("look(12)", x.look(12), 0);
    }

    @Says(promise = 44, words = "UNDO: the latest HOUR, PUTTING, SEARCH, TYING, LOOSING, LOCKING, OPENING")
    static void eachOfManyHoursIsUndoneByItself() {
        SleightHouse x = Scenes.house();
        x.hours(3);
        Due.is("look(12)", x.look(12), 3);
        for (int hour = 2; hour >= 0; hour--) {
            x.undo();
            Due.is("look(5)", x.look(5), hour);
        }
        Due.is("undo()", x.undo(), false);
        x.hours(60);
        Due.is("look(12)", x.look(12), 6);
        for (int i = 0; i < 6; i++) {
            x.undo();
        }
        Due.is("look(5)", x.look(5), 54);
    }

    @Says(promise = 44, words = "UNDO: the latest HOUR, PUTTING, SEARCH, TYING, LOOSING, LOCKING, OPENING")
    static void anHourGoesBackWithAllThatWasInIt() {
        SleightHouse x = Scenes.houseWithLaw("palms 1000;far 1;finds 1000;");
        Due.tell(x, 1, "at 0 person 0 puts 0 in 4;");
        Due.tell(x, 2, "at 0 tie 1;at 0 lock 9;at 0 search 0 1;");
        x.set(3, 1, 1);
        x.set(0, 2, 8);
        Due.is("hours(1)", x.hours(1), 1);
        Due.is("undo()", x.undo(), true);
        Due.is("IN", x.of(0, 2), 0);
        Due.is("MOVED", x.of(0, 3), 0);
        Due.is("fell", x.of(2, 2), 2);
        Due.is("LOST", x.look(3), 2);
        Due.is("PALMED", x.who(0, 3), 0);
        Due.is("TIED", x.who(1, 2), 0);
        Due.is("LOCK", x.look(4), 0);
        Due.is("SEARCHED", x.place(1, 2), 0);
        Due.is("FOUND", x.look(2), 0);
        Due.is("HOUR", x.look(5), 0);
        Due.is("STATE", x.look(7), 0);
        Due.is("the book", x.look(6), 0);
        Due.is("the law stays", x.look(8), 3);
        Due.is("once more the same: hours(1)", x.hours(1), 1);
    }

    @Says(promise = 44, words = "UNDO: the latest HOUR, PUTTING, SEARCH, TYING, LOOSING, LOCKING, OPENING")
    static void aPuttingGoesBack() {
        SleightHouse x = Scenes.houseWithLaw("palms 1000;far 1;");
        x.set(3, 0, 1);
        x.puts(0, 0, 4);
        Due.is("undo()", x.undo(), true);
        Due.is("IN", x.of(0, 2), 0);
        Due.is("MOVED", x.of(0, 3), 0);
        Due.is("LOST", x.of(0, 4), 1);
        Due.is("PALMED", x.who(0, 3), 0);
        Due.is("STATE", x.look(7), 0);
        Due.is("the book", x.book(0, 0), NONE);
    }

    @Says(promise = 44, words = "UNDO: the latest HOUR, PUTTING, SEARCH, TYING, LOOSING, LOCKING, OPENING")
    static void aSearchGoesBack() {
        SleightHouse x = Scenes.houseWithLaw("finds 1000;");
        x.set(3, 0, 1);
        Due.is("search(1, 0)", x.search(1, 0), 1);
        Due.is("undo()", x.undo(), true);
        Due.is("LOST", x.of(0, 4), 1);
        Due.is("FOUND", x.look(2), 0);
        Due.is("SEARCHED", x.place(0, 2), 0);
        Due.is("STATE", x.look(7), 0);
        Due.is("the book", x.look(6), 0);
    }

    @Says(promise = 44, words = "UNDO: the latest HOUR, PUTTING, SEARCH, TYING, LOOSING, LOCKING, OPENING")
    static void tyingLoosingLockingAndOpeningGoBack() {
        SleightHouse x = Scenes.house();
        x.act(0, 1);
        x.act(1, 1);
        x.act(2, 11);
        x.act(3, 11);
        x.undo();
        Due.is("the opening: look(4)", x.look(4), 2048);
        x.undo();
        Due.is("the locking: look(4)", x.look(4), 0);
        x.undo();
        Due.is("the loosing: who(1, 2)", x.who(1, 2), 1);
        x.undo();
        Due.is("the tying: who(1, 2)", x.who(1, 2), 0);
    }

    @Says(promise = 44, words = "not undone yet goes back")
    static void whatIsRefusedIsNotUndone() {
        SleightHouse x = lockedHouse();
        x.act(2, 0);
        x.act(4, 0);
        x.puts(1, 0, 4);
        x.search(2, 0);
        x.hours(0);
        x.hours(61);
        Due.is("look(12)", x.look(12), 1);
    }

    @Says(promise = 44, words = "UNDO: the latest HOUR, PUTTING, SEARCH, TYING, LOOSING, LOCKING, OPENING")
    static void aSearchForNothingIsUndoneToo() {
        SleightHouse x = Scenes.house();
        x.search(1, 7);
        Due.is("look(12)", x.look(12), 1);
        x.undo();
        Due.is("place(7, 2)", x.place(7, 2), 0);
    }

    /** Whether what could be undone is forgotten by then. */
    private static void forgets(String what, SleightHouse x, boolean due) {
        Due.is(what + " forgets", x.look(12), due ? 0 : 1);
        Due.is(what + ": undo()", x.undo(), !due);
    }

    @Says(promise = 44, words = "whatever else is told but THE LAW, LINE and what is told for thought")
    static void stateForgets() {
        SleightHouse x = lockedHouse();
        x.state(0);
        forgets("state", x, true);
    }

    @Says(promise = 44, words = "whatever else is told but THE LAW, LINE and what is told for thought")
    static void aNewThingForgets() {
        SleightHouse x = lockedHouse();
        x.thing(1, 0, 0);
        forgets("thing", x, true);
    }

    @Says(promise = 44, words = "whatever else is told but THE LAW, LINE and what is told for thought")
    static void aNewPersonForgets() {
        SleightHouse x = lockedHouse();
        x.person(1, 0);
        forgets("person", x, true);
    }

    @Says(promise = 44, words = "whatever else is told but THE LAW, LINE and what is told for thought")
    static void eachSetForgetsEvenIfItIsSo() {
        for (int what = 0; what <= 5; what++) {
            SleightHouse x = lockedHouse();
            Due.is("set(" + what + ", 1, 1)", x.set(what, 1, 1), true);
            forgets("set", x, true);
        }
        SleightHouse x = lockedHouse();
        x.set(0, 5, 9);
        forgets("set to what it is", x, true);
    }

    @Says(promise = 44, words = "whatever else is told but THE LAW, LINE and what is told for thought")
    static void supperAndCustomsForgetEvenIfTheyAreEmpty() {
        SleightHouse x = lockedHouse();
        x.text(1);
        forgets("SUPPER", x, true);
        x = lockedHouse();
        x.text(2);
        forgets("CUSTOMS", x, true);
    }

    @Says(promise = 44, words = "whatever else is told but THE LAW, LINE and what is told for thought")
    static void lawAndLineDoNotForget() {
        SleightHouse x = lockedHouse();
        Due.tell(x, 0, "far 1;");
        forgets("THE LAW", x, false);
        Due.is("it stays: look(8)", x.look(8), 1);
        x = lockedHouse();
        Due.tell(x, 3, "person 0 child of 1;");
        forgets("LINE", x, false);
        Due.is("it stays: look(11)", x.look(11), 1);
    }

    @Says(promise = 44, words = "(CUPS, CARDS, BOXES, KEYS, HEIR, GLANCE, MUST, WILL, GAME)")
    static void whatIsToldForThoughtDoesNotForgetAndStays() {
        SleightHouse x = lockedHouse();
        x.swap(0, 1);
        x.pick(0);
        x.box(1, 1);
        x.key(0, 1);
        x.gift(0, 1);
        x.mirror(0, 1);
        x.clue(0, 3, true);
        x.share(1);
        x.row(1);
        forgets("what is told for thought", x, false);
        Due.is("CUPS", x.under(0), 1);
        Due.is("CARDS", x.card(3, 0), 1);
        Due.is("BOXES", x.boxes(0), 1);
        Due.is("KEYS", x.opened(1), 3);
        Due.is("HEIR", x.heir(0), 12);
        Due.is("GLANCE", x.glance(0, 0), 18);
        Due.is("MUST", x.fits(0), 3);
        Due.is("WILL", x.gets(5, 0), 5);
        Due.is("GAME", x.game(0), 0);
    }

    @Says(promise = 44, words = "(CUPS, CARDS, BOXES, KEYS, HEIR, GLANCE, MUST, WILL, GAME)")
    static void toTakeWhatIsToldForThoughtAwayDoesNotForget() {
        SleightHouse x = lockedHouse();
        x.swap(NONE, 0);
        x.pick(NONE);
        x.box(NONE, 0);
        x.key(NONE, 0);
        x.gift(0, 2);
        x.mirror(0, 0);
        x.clue(NONE, 0, true);
        x.share(NONE);
        x.row(NONE);
        forgets("what is taken away", x, false);
    }

    @Says(promise = 44, words = "(the taking of THE IMAGE does not) forgets them")
    static void theTakingOfTheImageDoesNotForget() {
        SleightHouse x = lockedHouse();
        x.image(true);
        forgets("image(true)", x, false);
    }

    @Says(promise = 44, words = "(the taking of THE IMAGE does not) forgets them")
    static void goingBackToTheImageForgets() {
        SleightHouse x = lockedHouse();
        x.image(true);
        x.image(false);
        forgets("image(false)", x, true);
        Due.is("look(4)", x.look(4), 1);
    }

    @Says(promise = 44, words = "(the taking of THE IMAGE does not) forgets them")
    static void goingBackToNoImageDoesNotForget() {
        SleightHouse x = lockedHouse();
        x.image(false);
        forgets("image(false) without one", x, false);
    }

    @Says(promise = 44, words = "whatever else is told but THE LAW, LINE and what is told for thought")
    static void whatIsAskedDoesNotForget() {
        SleightHouse x = lockedHouse();
        x.goes(60, 0);
        x.where(1, 1, 5);
        x.brings(1, 1);
        x.tells(0, 0, 0, 0);
        x.heir(NONE);
        x.fits(NONE);
        x.fault(0);
        x.look(7);
        forgets("asking", x, false);
    }

    @Says(promise = 44, words = "goes back (STATE, THE BOOK, too)")
    static void anUndoneDrawIsDrawnAgain() {
        SleightHouse x = Scenes.houseWithLaw("palms 500;far 1;");
        x.state(MIN);
        int where = x.puts(0, 0, 4);
        int state = x.look(7);
        x.undo();
        Due.is("look(7)", x.look(7), MIN);
        Due.is("puts(0, 0, 4)", x.puts(0, 0, 4), where);
        Due.is("look(7)", x.look(7), state);
    }

    // Promise 45

    @Says(promise = 45, words = "false if there is none")
    static void inANewHouseThereIsNoImage() {
        SleightHouse x = Scenes.house();
        Due.is("image(false)", x.image(false), false);
        Due.is("nothing is changed: look(0)", x.look(0), 3);
        Due.is("image(true)", x.image(true), true);
        Due.is("image(false)", x.image(false), true);
    }

    @Says(promise = 45, words = "gone back to it may be more than once")
    static void itMayBeGoneBackToMoreThanOnce() {
        SleightHouse x = Scenes.house();
        x.image(true);
        for (int i = 0; i < 3; i++) {
            x.hours(5);
            x.thing(1, 0, 0);
            x.person(1, 1);
            Due.is("image(false)", x.image(false), true);
            Due.is("look(5)", x.look(5), 0);
            Due.is("look(0)", x.look(0), 3);
            Due.is("look(1)", x.look(1), 2);
        }
    }

    @Says(promise = 45, words = "as it was when it was taken")
    static void aNewImageTakesThePlaceOfTheOld() {
        SleightHouse x = Scenes.house();
        x.image(true);
        x.hours(5);
        x.image(true);
        x.hours(5);
        x.image(false);
        Due.is("look(5)", x.look(5), 5);
    }

    @Says(promise = 45, words = "as it was when it was taken")
    static void anEmptyHouseIsAnImageToo() {
        SleightHouse x = new SleightHouse();
        x.image(true);
        x.thing(9, 9, 9);
        x.person(9, 9);
        x.set(0, 9, 99);
        x.image(false);
        Due.is("look(0)", x.look(0), 0);
        Due.is("look(1)", x.look(1), 0);
        Due.is("place(9, 0)", x.place(9, 0), 9);
        Due.is("of(0, 0)", x.of(0, 0), NONE);
        Due.is("thing(1, 0, 3)", x.thing(1, 0, 3), 0);
        Due.is("of(0, 0)", x.of(0, 0), 1);
        Due.is("place(9, 4)", x.place(9, 4), 0);
    }

    @Says(promise = 45, words = "THE IMAGE: all that is and was told but the TAPE, fault() and what can be undone (nothing then)")
    static void theTapeStaysAsItIs() {
        SleightHouse x = Scenes.house();
        Due.feed(x, "far 1;");
        x.image(true);
        x.end(0);
        Due.feed(x, "far 1;far 2;");
        x.image(false);
        Due.is("end(13)", x.end(13), false);
        Due.is("text(0)", x.text(0), 2);
    }

    @Says(promise = 45, words = "THE IMAGE: all that is and was told but the TAPE, fault() and what can be undone (nothing then)")
    static void theFaultStaysAsItIs() {
        SleightHouse x = Scenes.house();
        x.image(true);
        Due.faulty(x, 0, "far 1/0;", 2, 6);
        x.image(false);
        Due.is("fault(0)", x.fault(0), 2);
        Due.is("fault(1)", x.fault(1), 6);
        x.image(true);
        x.text(0);
        x.image(false);
        Due.is("fault(0)", x.fault(0), 0);
    }

    @Says(promise = 45, words = "what can be undone (nothing then)")
    static void behindGoingBackNothingCanBeUndone() {
        SleightHouse x = lockedHouse();
        x.image(true);
        x.act(2, 1);
        x.image(false);
        Due.is("look(12)", x.look(12), 0);
        Due.is("undo()", x.undo(), false);
        Due.is("look(4)", x.look(4), 1);
    }

    @Says(promise = 45, words = "as it was when it was taken")
    static void undoingDoesNotChangeTheImage() {
        SleightHouse x = lockedHouse();
        x.image(true);
        x.undo();
        Due.is("look(4)", x.look(4), 0);
        x.image(false);
        Due.is("look(4)", x.look(4), 1);
    }

    @Says(promise = 45, words = "THE IMAGE: all that is and was told")
    static void allThatHoursChangeIsInTheImage() {
        SleightHouse x = Scenes.houseWithLaw("palms 1000;far 1;finds 1000;");
        x.puts(0, 0, 4);
        x.search(1, 5);
        x.puts(0, 1, 6);
        x.act(0, 1);
        x.act(2, 8);
        x.hours(2);
        x.image(true);
        int state = x.look(7);
        x.act(1, 1);
        x.act(3, 8);
        x.search(1, 7);
        x.puts(1, 0, 9);
        x.hours(3);
        x.image(false);
        int[] looks = {3, 2, 1, 2, 256, 2, 6, state, 3, 0, 0, 0, 0};
        for (int what = 0; what < looks.length; what++) {
            Due.is("look(" + what + ")", x.look(what), looks[what]);
        }
        Due.is("IN", x.of(0, 2), 5);
        Due.is("MOVED", x.of(0, 3), 2);
        Due.is("PALMED", x.who(0, 3), 2);
        Due.is("PALMED", x.who(1, 3), 0);
        Due.is("TIED", x.who(1, 2), 1);
        Due.is("SEARCHED", x.place(7, 2), 0);
        Due.is("SEARCHED", x.place(5, 2), 1);
        Due.is("the book", x.book(5, 1), 1);
        Due.is("the book", x.book(6, 1), NONE);
    }

    @Says(promise = 45, words = "THE IMAGE: all that is and was told")
    static void allThatIsSetIsInTheImage() {
        SleightHouse x = Scenes.house();
        x.image(true);
        for (int what = 0; what <= 5; what++) {
            x.set(what, 1, 1);
        }
        x.image(false);
        Due.is("ROOM", x.place(1, 0), 9);
        Due.is("SIZE", x.of(1, 0), 5);
        Due.is("WORTH", x.of(1, 1), 0);
        Due.is("LOST", x.of(1, 4), 0);
        Due.is("SLEIGHT", x.who(1, 0), 0);
        Due.is("WITS", x.who(1, 1), 9);
    }

    @Says(promise = 45, words = "THE IMAGE: all that is and was told")
    static void allTextsAreInTheImage() {
        SleightHouse x = Scenes.house();
        Due.tell(x, 0, "far 7;");
        Due.tell(x, 1, "at 0 person 1 puts 0 in 5;");
        Due.tell(x, 2, "at 0 lock 9;");
        Due.tell(x, 3, "person 0 child of 1;");
        x.image(true);
        for (int k = 0; k <= 3; k++) {
            x.text(k);
        }
        x.image(false);
        for (int what = 8; what <= 11; what++) {
            Due.is("look(" + what + ")", x.look(what), 1);
        }
        Due.is("far", x.tells(0, 0, 0, 1), 7);
        Due.is("parents", x.who(0, 4), 2);
        x.hours(1);
        Due.is("SUPPER", x.of(0, 2), 5);
        Due.is("CUSTOMS", x.look(4), 512);
    }

    @Says(promise = 45, words = "THE IMAGE: all that is and was told")
    static void allThatIsToldForThoughtIsInTheImage() {
        SleightHouse x = Scenes.house();
        x.image(true);
        x.swap(0, 1);
        x.pick(0);
        x.box(1, 1);
        x.key(0, 1);
        x.gift(0, 0);
        x.mirror(0, 1);
        x.clue(0, 3, true);
        x.share(1);
        x.row(1);
        x.mirror(35, 2);
        x.gift(11, 0);
        x.image(false);
        Due.is("CUPS", x.under(0), 0);
        Due.is("CARDS", x.card(3, 0), 0);
        Due.is("BOXES", x.boxes(0), 0);
        Due.is("KEYS", x.opened(1), 1);
        Due.is("HEIR", x.heir(0), 2);
        Due.is("GLANCE", x.glance(0, 0), 12);
        Due.is("GLANCE at the last place", x.glance(17, 0), 5);
        Due.is("MUST", x.fits(0), NONE);
        Due.is("WILL", x.gets(5, 0), NONE);
        Due.is("GAME", x.game(0), NONE);
    }

    @Says(promise = 45, words = "THE IMAGE: all that is and was told")
    static void aFullBookIsInTheImage() {
        SleightHouse x = Scenes.house();
        for (int i = 0; i < 150; i++) {
            x.search(1, i % 12);
        }
        x.image(true);
        for (int i = 0; i < 6; i++) {
            x.undo();
        }
        for (int i = 0; i < 6; i++) {
            x.search(0, 0);
        }
        x.image(false);
        for (int i = 0; i < 150; i++) {
            Due.is("book(" + i + ", 2)", x.book(i, 2), i % 12);
            Due.is("book(" + i + ", 3)", x.book(i, 3), 1);
        }
        Due.is("look(6)", x.look(6), 150);
    }

    // Promise 46

    @Says(promise = 46, words = "NONE for another what")
    static void atAnotherWhatNothingIsLookedAt() {
        SleightHouse x = Scenes.house();
        int[] others = {-1, 13, MIN, MAX};
        for (int what : others) {
            Due.is("look(" + what + ")", x.look(what), NONE);
        }
    }

    @Says(promise = 46, words = "(STATE as it is.)")
    static void theStateMayLookLikeNone() {
        SleightHouse x = new SleightHouse();
        int[] states = {-1, MIN, MAX, -2};
        for (int state : states) {
            x.state(state);
            Due.is("look(7)", x.look(7), state);
        }
    }

    @Says(promise = 46, words = "0 THINGS, 1 PEOPLE, 2 FOUND, 3 those LOST (a set), 4 PLACES locked (a set)")
    static void theLargestSets() {
        SleightHouse x = new SleightHouse();
        for (int i = 0; i < 16; i++) {
            x.thing(1, 0, 0);
            x.set(3, i, 1);
        }
        for (int place = 0; place < 12; place++) {
            x.act(2, place);
        }
        Due.is("look(0)", x.look(0), 16);
        Due.is("look(3)", x.look(3), 65535);
        Due.is("look(4)", x.look(4), 4095);
        x.set(3, 15, 0);
        Due.is("look(3)", x.look(3), 32767);
    }

    @Says(promise = 46, words = "8 lines of THE LAW, 9 of SUPPER, 10 of CUSTOMS, 11 of LINE, 12 what can be undone")
    static void theMostLinesOfEachText() {
        SleightHouse x = Scenes.family(12, "");
        x.thing(1, 0, 0);
        Due.tell(x, 0, "far 1;".repeat(16));
        Due.tell(x, 1, "at0person0puts0in0;".repeat(15));
        Due.tell(x, 2, "at 0 tie 0;".repeat(14));
        Due.tell(x, 3, "person 0 child of 1;person 0 child of 2;");
        Due.is("look(8)", x.look(8), 16);
        Due.is("look(9)", x.look(9), 15);
        Due.is("look(10)", x.look(10), 14);
        Due.is("look(11)", x.look(11), 2);
    }

    @Says(promise = 46, words = "5 HOUR, 6 lines of THE BOOK, 7 STATE")
    static void lookingChangesNothing() {
        SleightHouse x = lockedHouse();
        for (int round = 0; round < 2; round++) {
            int[] due = {3, 2, 0, 0, 1, 0, 0, 0, 0, 0, 0, 0, 1};
            for (int what = 0; what < due.length; what++) {
                Due.is("look(" + what + ")", x.look(what), due[what]);
            }
        }
    }
}
