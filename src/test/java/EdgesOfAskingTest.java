import java.io.IOException;

/** Boundary cases of promises 17 to 21: what the law tells, the book, and what is asked in thought of hours and hands. */
public final class EdgesOfAskingTest {
    private static final int NONE = SleightHouse.NONE;
    private static final int MIN = Integer.MIN_VALUE;
    private static final int MAX = Integer.MAX_VALUE;

    private EdgesOfAskingTest() {
    }

    public static void main(String[] args) throws IOException, IllegalAccessException {
        Cases.run(EdgesOfAskingTest.class);
    }

    // Promise 17

    @Says(promise = 17, words = "NONE if there is none such, or another what")
    static void ofNoSuchPersonThingOrPlaceNothingIsTold() {
        SleightHouse x = Scenes.house();
        int[] far = {-1, MIN, MAX};
        for (int v : far) {
            Due.is("tells(" + v + ", 0, 0, 0)", x.tells(v, 0, 0, 0), NONE);
            Due.is("tells(0, " + v + ", 0, 0)", x.tells(0, v, 0, 0), NONE);
            Due.is("tells(0, 0, " + v + ", 0)", x.tells(0, 0, v, 0), NONE);
        }
        Due.is("tells(2, 0, 0, 0)", x.tells(2, 0, 0, 0), NONE);
        Due.is("tells(0, 3, 0, 0)", x.tells(0, 3, 0, 0), NONE);
        Due.is("tells(0, 0, 12, 0)", x.tells(0, 0, 12, 0), NONE);
        Due.is("the last of each: tells(1, 2, 11, 2)", x.tells(1, 2, 11, 2), 950);
    }

    @Says(promise = 17, words = "NONE if there is none such, or another what")
    static void anotherWhatIsNotTold() {
        SleightHouse x = Scenes.house();
        int[] others = {-1, 3, MIN, MAX};
        for (int what : others) {
            Due.is("tells(0, 0, 0, " + what + ")", x.tells(0, 0, 0, what), NONE);
        }
    }

    @Says(promise = 17, words = "palms: 80 times sleight less 20 times size")
    static void palmsWithoutALineIsHeldTo0() {
        SleightHouse x = Scenes.house();
        x.set(4, 0, 1);
        x.set(1, 0, 4);
        Due.is("80 less 80", x.tells(0, 0, 0, 0), 0);
        x.set(1, 0, 3);
        Due.is("80 less 60", x.tells(0, 0, 0, 0), 20);
        x.set(1, 0, 5);
        Due.is("80 less 100", x.tells(0, 0, 0, 0), 0);
        x.set(4, 0, 9);
        x.set(1, 0, 1);
        Due.is("the most", x.tells(0, 0, 0, 0), 700);
        x.set(4, 0, 0);
        x.set(1, 0, 9);
        Due.is("the least", x.tells(0, 0, 0, 0), 0);
    }

    @Says(promise = 17, words = "far: 1 and sleight")
    static void farWithoutALine() {
        SleightHouse x = Scenes.house();
        Due.is("sleight 9", x.tells(0, 0, 0, 1), 10);
        Due.is("sleight 0", x.tells(1, 0, 0, 1), 1);
    }

    @Says(promise = 17, words = "finds: 500 and 50 times wits")
    static void findsWithoutALine() {
        SleightHouse x = Scenes.house();
        x.set(5, 0, 0);
        Due.is("wits 0", x.tells(0, 0, 0, 2), 500);
        Due.is("wits 9", x.tells(1, 0, 0, 2), 950);
    }

    private static void held(String word, int what, int most) {
        int[][] rows = {{0, 0}, {1, 1}, {most - 1, most - 1}, {most, most}, {most + 1, most}, {9999, most}};
        for (int[] row : rows) {
            SleightHouse x = Scenes.houseWithLaw(word + " " + row[0] + ";");
            Due.is(word + " " + row[0], x.tells(0, 0, 0, what), row[1]);
        }
        Due.is(word + " 0-1", Scenes.houseWithLaw(word + " 0-1;").tells(0, 0, 0, what), 0);
        Due.is(word + " far below 0", Scenes.houseWithLaw(word + " 0-9999*9999;").tells(0, 0, 0, what), 0);
    }

    @Says(promise = 17, words = "palms, finds held to 0 .. 1000")
    static void palmsIsHeldTo0And1000() {
        held("palms", 0, 1000);
    }

    @Says(promise = 17, words = "palms, finds held to 0 .. 1000")
    static void findsIsHeldTo0And1000() {
        held("finds", 2, 1000);
    }

    @Says(promise = 17, words = "far to 0 .. 99")
    static void farIsHeldTo0And99() {
        held("far", 1, 99);
    }

    /** What a law tells of a thing of size 5 in place 1, which is locked, lost, at hour 7. */
    private static int told(String law, int what) {
        SleightHouse x = Scenes.houseWithLaw(law);
        x.hours(7);
        x.set(3, 1, 1);
        x.act(2, 1);
        return x.tells(0, 1, 1, what);
    }

    @Says(promise = 17, words = "E of the first line with that word whose B is so, or that has none")
    static void theFirstLineThatHoldsTells() {
        Due.is("the first of two", told("far 3;far 4;", 1), 3);
        Due.is("the first is not so", told("far 3 when 1=2;far 4;", 1), 4);
        Due.is("the last one is so", told("far 3 when 1=2;far 4 when 1=2;far 5 when 1=1;", 1), 5);
        Due.is("lines with another word", told("palms 3;finds 4;far 5;", 1), 5);
    }

    @Says(promise = 17, words = "(none: palms: 80 times sleight less 20 times size")
    static void ifNoLineHoldsItIsAsWithoutALine() {
        Due.is("palms", told("palms 3 when 1=2;far 1;", 0), 620);
        Due.is("far", told("far 3 when 1=2;palms 1;", 1), 10);
        Due.is("finds", told("finds 3 when 1=2;far 1;", 2), 600);
    }

    @Says(promise = 17, words = "16 lines of each at most")
    static void theSixteenthLineTells() {
        Due.is("far", told("far 3 when 1=2;".repeat(15) + "far 4;", 1), 4);
    }

    @Says(promise = 17, words = "Ints, which wrap")
    static void productsWrapAround() {
        // 9999 * 9999 * 43 is 4299140043, so 4172747 behind the wrap; times 22 it is below 0.
        Due.is("above 0 again", told("far 1 when 9999*9999*43=417*1000*10+2747;far 2;", 1), 1);
        Due.is("below 0", told("far 1 when 9999*9999*22<0;far 2;", 1), 1);
    }

    @Says(promise = 17, words = "Ints, which wrap")
    static void sumsWrapAround() {
        // 2147483647 is 2147 * 1000 * 1000 + 483 * 1000 + 647.
        String most = "2147*1000*1000+483*1000+647";
        Due.is("the most", told("far 1 when " + most + ">0;far 2;", 1), 1);
        Due.is("one more is below 0", told("far 1 when " + most + "+1<0;far 2;", 1), 1);
        Due.is("the least less 1 is above 0", told("far 1 when 0-1-" + "2147*1000*1000-483*1000-647-1>0;far 2;", 1), 1);
    }

    @Says(promise = 17, words = "/ goes towards 0")
    static void partsGoTowards0() {
        Due.is("7/2", told("far 7/2;", 1), 3);
        Due.is("1/9999", told("far 1/9999;", 1), 0);
        // 9999 * 9999 * 30 wraps to -1295567266; a ninth of it is -143951918 4/9.
        Due.is("below 0", told("far 1 when 9999*9999*30/9=0-143*1000*1000-951*1000-918;far 2;", 1), 1);
    }

    @Says(promise = 17, words = "E = T {(+ | -) T}.  T = U {* U | / NUMBER}")
    static void productsBindAheadOfSums() {
        Due.is("2+3*4", told("far 2+3*4;", 1), 14);
        Due.is("2*3+4", told("far 2*3+4;", 1), 10);
        Due.is("20-3-4", told("far 20-3-4;", 1), 13);
        Due.is("20-3+4", told("far 20-3+4;", 1), 21);
        Due.is("17/2*2", told("far 17/2*2;", 1), 16);
        Due.is("2*17/2", told("far 2*17/2;", 1), 17);
        Due.is("90-17/2/2", told("far 90-17/2/2;", 1), 86);
    }

    @Says(promise = 17, words = "B = A {or A}.  A = C {and C}")
    static void andBindsAheadOfOr() {
        Due.is("so or so and not so", told("far 1 when 1=1 or 1=1 and 1=2;far 2;", 1), 1);
        Due.is("not so and so or so", told("far 1 when 1=2 and 1=1 or 1=1;far 2;", 1), 1);
        Due.is("so and not so or not so", told("far 1 when 1=1 and 1=2 or 1=2;far 2;", 1), 2);
        Due.is("in brackets", told("far 1 when (1=1 or 1=1) and 1=2;far 2;", 1), 2);
        Due.is("and thrice", told("far 1 when 1=1 and 1=1 and 1=2;far 2;", 1), 2);
        Due.is("or thrice", told("far 1 when 1=2 or 1=2 or 1=1;far 2;", 1), 1);
        Due.is("less and alike", told("far 1 when 1<2 and 1=1;far 2;", 1), 1);
        Due.is("alike and more", told("far 1 when 1=1 and 2>1;far 2;", 1), 1);
    }

    @Says(promise = 17, words = "not C | ( B )")
    static void notIsOfTheNextClaimAlone() {
        Due.is("not not so and not so", told("far 1 when not 1=2 and 1=2;far 2;", 1), 2);
        Due.is("not so or so", told("far 1 when not 1=1 or 1=1;far 2;", 1), 1);
        Due.is("not of a bracket", told("far 1 when not (1=2 and 1=2);far 2;", 1), 1);
        Due.is("not not", told("far 1 when not not 1=1;far 2;", 1), 1);
        Due.is("not not not", told("far 1 when not not not 1=1;far 2;", 1), 2);
        Due.is("not less", told("far 1 when not 1<2;far 2;", 1), 2);
        Due.is("not more", told("far 1 when not 2>1;far 2;", 1), 2);
    }

    @Says(promise = 17, words = "C = E (< | = | >) E")
    static void alikeIsNeitherLessNorMore() {
        Due.is("2<2", told("far 1 when 2<2;far 2;", 1), 2);
        Due.is("2>2", told("far 1 when 2>2;far 2;", 1), 2);
        Due.is("2=2", told("far 1 when 2=2;far 2;", 1), 1);
        Due.is("2<3", told("far 1 when 2<3;far 2;", 1), 1);
        Due.is("3>2", told("far 1 when 3>2;far 2;", 1), 1);
        Due.is("2=3", told("far 1 when 2=3;far 2;", 1), 2);
        Due.is("0-1<0", told("far 1 when 0-1<0;far 2;", 1), 1);
    }

    @Says(promise = 17, words = "sleight, wits, palmed: the PERSON's; size, worth, moved, lost: the THING's")
    static void eachFactIsToldAsItIsNow() {
        SleightHouse x = Scenes.houseWithLaw("palms 1000;far 1;");
        x.set(2, 0, 77);
        x.puts(0, 0, 4);
        x.hours(8);
        x.act(2, 1);
        String[] facts = {"sleight", "wits", "size", "worth", "place", "full", "lock", "moved", "lost", "palmed", "hour"};
        int[] due = {9, 2, 3, 77, 1, 5, 1, 2, 1, 1, 8};
        for (int i = 0; i < facts.length; i++) {
            Due.tell(x, 0, "palms " + facts[i] + ";");
            Due.is(facts[i], x.tells(0, 0, 1, 0), due[i]);
        }
    }

    @Says(promise = 17, words = "place: the PLACE's number; full: its FULL; lock: its LOCK")
    static void ofAPlaceWhereTheThingIsNot() {
        SleightHouse x = Scenes.houseWithLaw("palms place*100+full*10+lock;");
        x.act(2, 11);
        Due.is("empty and locked", x.tells(0, 0, 11, 0), 1000);
        Due.is("with something else", x.tells(0, 0, 1, 0), 150);
        Due.is("its own", x.tells(0, 0, 0, 0), 30);
    }

    @Says(promise = 17, words = "as now")
    static void tellingMakesNoDraw() {
        SleightHouse x = Scenes.house();
        x.tells(0, 0, 0, 0);
        x.tells(0, 0, 0, 2);
        Due.is("look(7)", x.look(7), 0);
        Due.is("look(6)", x.look(6), 0);
    }

    // Promise 18

    /** An hour of it makes twelve lines: one thing falls through places without room. */
    private static SleightHouse fallingHouse() {
        SleightHouse x = new SleightHouse();
        x.thing(1, 0, 0);
        x.person(0, 0);
        for (int place = 0; place < 12; place++) {
            x.set(0, place, 0);
        }
        return x;
    }

    @Says(promise = 18, words = "NONE if there is none such, or another what")
    static void ofAnEmptyBookNothingIsTold() {
        SleightHouse x = Scenes.house();
        for (int what = 0; what <= 3; what++) {
            Due.is("book(0, " + what + ")", x.book(0, what), NONE);
        }
    }

    @Says(promise = 18, words = "NONE if there is none such, or another what")
    static void ofNoSuchLineNothingIsTold() {
        SleightHouse x = Scenes.house();
        x.search(1, 5);
        int[] lines = {-1, 1, 149, 150, MIN, MAX};
        for (int line : lines) {
            for (int what = 0; what <= 3; what++) {
                Due.is("book(" + line + ", " + what + ")", x.book(line, what), NONE);
            }
        }
        Due.is("book(0, 2)", x.book(0, 2), 5);
    }

    @Says(promise = 18, words = "NONE if there is none such, or another what")
    static void ofALineAnotherWhatIsNone() {
        SleightHouse x = Scenes.house();
        x.search(1, 5);
        int[] others = {-1, 4, MIN, MAX};
        for (int what : others) {
            Due.is("book(0, " + what + ")", x.book(0, what), NONE);
        }
    }

    @Says(promise = 18, words = "THE BOOK (150 lines; no more then)")
    static void theBookHas150Lines() {
        SleightHouse x = fallingHouse();
        x.hours(12);
        Due.is("144 lines", x.look(6), 144);
        x.hours(1);
        Due.is("150 lines", x.look(6), 150);
        Due.is("book(149, 0)", x.book(149, 0), 12);
        Due.is("book(149, 1)", x.book(149, 1), 4);
        Due.is("the sixth of that hour: book(149, 3)", x.book(149, 3), 6);
        Due.is("book(150, 0)", x.book(150, 0), NONE);
    }

    @Says(promise = 18, words = "THE BOOK (150 lines; no more then)")
    static void withAFullBookAllGoesOn() {
        SleightHouse x = fallingHouse();
        x.hours(60);
        Due.is("look(6)", x.look(6), 150);
        Due.is("search(0, 5)", x.search(0, 5), 0);
        Due.is("place(5, 2)", x.place(5, 2), 1);
        Due.is("look(6)", x.look(6), 150);
        Due.is("the last line stays: book(149, 1)", x.book(149, 1), 4);
    }

    @Says(promise = 18, words = "THE BOOK (150 lines; no more then)")
    static void theLastLineIsForThePuttingNotForThePalming() {
        SleightHouse x = fallingHouse();
        x.hours(12);
        for (int i = 0; i < 5; i++) {
            x.search(0, 5);
        }
        Due.tell(x, 0, "palms 1000;far 1;");
        x.set(0, 3, 9);
        x.set(0, 4, 9);
        Due.is("149 lines", x.look(6), 149);
        Due.is("puts(0, 0, 3)", x.puts(0, 0, 3), 4);
        Due.is("150 lines", x.look(6), 150);
        Due.is("book(149, 1)", x.book(149, 1), 0);
        Due.is("book(149, 3)", x.book(149, 3), 3);
    }

    @Says(promise = 18, words = "THE BOOK (150 lines; no more then)")
    static void aFullBookHasRoomAgainBehindUndo() {
        SleightHouse x = fallingHouse();
        x.hours(14);
        x.undo();
        x.undo();
        Due.is("look(6)", x.look(6), 144);
        Due.is("book(144, 0)", x.book(144, 0), NONE);
        x.search(0, 9);
        Due.is("book(144, 2)", x.book(144, 2), 9);
    }

    @Says(promise = 18, words = "what (0 put, 1 palmed, 2 searched, 3 found, 4 fell)")
    static void eachKindOfLine() {
        SleightHouse x = Scenes.houseWithLaw("palms 1000 when sleight = 9;palms 0;far 1;finds 1000;");
        x.hours(2);
        x.puts(0, 0, 4);
        x.search(1, 5);
        x.set(0, 2, 8);
        x.hours(1);
        int[][] lines = {{2, 0, 0, 4}, {2, 1, 0, 0}, {2, 2, 5, 1}, {2, 3, 0, 1}, {2, 4, 2, 3}};
        for (int i = 0; i < lines.length; i++) {
            for (int what = 0; what <= 3; what++) {
                Due.is("book(" + i + ", " + what + ")", x.book(i, what), lines[i][what]);
            }
        }
        Due.is("look(6)", x.look(6), 5);
    }

    @Says(promise = 18, words = "0, 4: the PLACE where it is then")
    static void tyingAndLockingAreNotInTheBook() {
        SleightHouse x = Scenes.house();
        x.act(0, 0);
        x.act(1, 0);
        x.act(2, 0);
        x.act(3, 0);
        Due.is("look(6)", x.look(6), 0);
    }

    // Promise 19

    private static SleightHouse plannedHouse(int palms, int finds) {
        SleightHouse x = Scenes.houseWithLaw("palms " + palms + ";far 1;finds " + finds + ";");
        Due.tell(x, 1, "at 0 person 0 puts 0 in 4;");
        Due.tell(x, 2, "at 1 search 1 5;at 59 search 1 6;at 60 search 1 6;");
        return x;
    }

    @Says(promise = 19, words = "GOES for n (1 .. 60) HOURS")
    static void noHoursInThoughtAreNone() {
        SleightHouse x = plannedHouse(1000, 1000);
        int[] wrong = {0, -1, 61, MIN, MAX};
        for (int n : wrong) {
            for (int what = 0; what <= 3; what++) {
                Due.is("goes(" + n + ", " + what + ")", x.goes(n, what), NONE);
            }
        }
    }

    @Says(promise = 19, words = "GOES for n (1 .. 60) HOURS")
    static void oneHourInThought() {
        SleightHouse x = plannedHouse(1000, 1000);
        Due.is("FOUND", x.goes(1, 0), 0);
        Due.is("LOST", x.goes(1, 1), 1);
        Due.is("PALMED", x.goes(1, 2), 1);
        Due.is("SEARCHED", x.goes(1, 3), 0);
    }

    @Says(promise = 19, words = "GOES for n (1 .. 60) HOURS")
    static void sixtyHoursInThought() {
        SleightHouse x = plannedHouse(1000, 1000);
        Due.is("FOUND", x.goes(60, 0), 1);
        Due.is("LOST", x.goes(60, 1), 0);
        Due.is("PALMED", x.goes(60, 2), 1);
        Due.is("SEARCHED", x.goes(60, 3), 2);
    }

    @Says(promise = 19, words = "NONE if one can't be, or another what")
    static void ofHoursInThoughtAnotherWhatIsNone() {
        SleightHouse x = Scenes.house();
        int[] others = {-1, 4, MIN, MAX};
        for (int what : others) {
            Due.is("goes(1, " + what + ")", x.goes(1, what), NONE);
        }
    }

    @Says(promise = 19, words = "it is palmed, found, if that is 500 at least")
    static void inThoughtPalmsOf499IsNotPalmed() {
        Due.is("499", plannedHouse(499, 0).goes(1, 2), 0);
        Due.is("500", plannedHouse(500, 0).goes(1, 2), 1);
    }

    @Says(promise = 19, words = "it is palmed, found, if that is 500 at least")
    static void inThoughtFindsOf499IsNotFound() {
        Due.is("499", plannedHouse(1000, 499).goes(2, 0), 0);
        Due.is("500", plannedHouse(1000, 500).goes(2, 0), 1);
    }

    @Says(promise = 19, words = "IN THOUGHT (nothing of it stays; no DRAWS")
    static void nothingOfHoursInThoughtStays() {
        SleightHouse x = plannedHouse(1000, 1000);
        x.act(2, 9);
        x.goes(60, 0);
        Due.is("IN", x.of(0, 2), 0);
        Due.is("MOVED", x.of(0, 3), 0);
        Due.is("LOST", x.look(3), 0);
        Due.is("PALMED", x.who(0, 3), 0);
        Due.is("SEARCHED", x.place(5, 2), 0);
        Due.is("FOUND", x.look(2), 0);
        Due.is("HOUR", x.look(5), 0);
        Due.is("STATE", x.look(7), 0);
        Due.is("the book", x.look(6), 0);
        Due.is("what can be undone", x.look(12), 1);
    }

    @Says(promise = 19, words = "FOUND, how many are LOST, PALMED of all, SEARCHED of all then")
    static void whatWasAheadIsCountedToo() {
        SleightHouse x = Scenes.houseWithLaw("palms 1000;far 1;finds 1000;");
        x.puts(0, 0, 4);
        x.search(1, 5);
        x.puts(1, 0, 4);
        Due.is("FOUND", x.goes(1, 0), 1);
        Due.is("LOST", x.goes(1, 1), 1);
        Due.is("PALMED of both", x.goes(1, 2), 2);
        Due.is("SEARCHED", x.goes(1, 3), 1);
    }

    @Says(promise = 19, words = "FOUND, how many are LOST, PALMED of all, SEARCHED of all then")
    static void allSixteenMayBeLostInThought() {
        SleightHouse x = new SleightHouse();
        for (int i = 0; i < 16; i++) {
            x.thing(1, 0, 0);
            x.set(3, i, 1);
        }
        Due.is("goes(1, 1)", x.goes(1, 1), 16);
    }

    @Says(promise = 19, words = "GOES for n (1 .. 60) HOURS")
    static void thoughtGoesOnFromTheHourThatIs() {
        SleightHouse x = plannedHouse(1000, 1000);
        x.hours(59);
        Due.is("at 59: goes(1, 3)", x.goes(1, 3), 2);
        Due.is("at 59 and 60: goes(2, 3)", x.goes(2, 3), 3);
    }

    // Promise 20

    private static int whereWith(int palms) {
        return Scenes.houseWithLaw("palms " + palms + ";far 2;").where(0, 0, 11);
    }

    @Says(promise = 20, words = "it is palmed, found, if that is 500 at least")
    static void itWouldBePalmedFrom500On() {
        Due.is("0", whereWith(0), 11);
        Due.is("499", whereWith(499), 11);
        Due.is("500", whereWith(500), 1);
        Due.is("1000", whereWith(1000), 1);
    }

    @Says(promise = 20, words = "WHERE; NONE if it can't be")
    static void noSuchPersonThingOrPlaceIsThoughtOf() {
        SleightHouse x = Scenes.house();
        int[] far = {-1, MIN, MAX};
        for (int v : far) {
            Due.is("where(" + v + ", 0, 4)", x.where(v, 0, 4), NONE);
            Due.is("where(0, " + v + ", 4)", x.where(0, v, 4), NONE);
            Due.is("where(0, 0, " + v + ")", x.where(0, 0, v), NONE);
        }
        Due.is("where(2, 0, 4)", x.where(2, 0, 4), NONE);
        Due.is("where(0, 3, 4)", x.where(0, 3, 4), NONE);
        Due.is("where(0, 0, 12)", x.where(0, 0, 12), NONE);
    }

    @Says(promise = 20, words = "WHERE; NONE if it can't be")
    static void whatCantBePutCantBeThoughtOf() {
        SleightHouse x = Scenes.house();
        Due.is("no room: where(1, 2, 1)", x.where(1, 2, 1), NONE);
        Due.is("room: where(1, 2, 4)", x.where(1, 2, 4), 4);
        x.act(2, 4);
        Due.is("into a locked one", x.where(1, 2, 4), NONE);
        x.act(3, 4);
        x.act(2, 2);
        Due.is("out of a locked one", x.where(1, 2, 4), NONE);
        x.act(3, 2);
        x.act(0, 1);
        Due.is("tied", x.where(1, 2, 4), NONE);
    }

    @Says(promise = 20, words = "FULL and SIZE above ROOM")
    static void roomInThoughtIsJustEnoughOrOneShort() {
        SleightHouse x = Scenes.house();
        x.set(0, 4, 9);
        Due.is("9 of 9", x.where(1, 2, 4), 4);
        x.set(0, 4, 8);
        Due.is("9 of 8", x.where(1, 2, 4), NONE);
        Due.is("9 of 9 where it is", x.where(1, 2, 2), 2);
    }

    @Says(promise = 20, words = "then on to the first one that has ROOM for it")
    static void inThoughtItGoesOnToOneWithRoomToo() {
        SleightHouse x = Scenes.houseWithLaw("palms 1000 when moved = 1 and sleight = 9;palms 0;far 1;");
        Due.is("puts(1, 2, 5)", x.puts(1, 2, 5), 5);
        Due.is("5 is full: where(0, 0, 4)", x.where(0, 0, 4), 6);
        x.set(0, 6, 2);
        Due.is("6 is too small: where(0, 0, 4)", x.where(0, 0, 4), 7);
        for (int place = 0; place < 12; place++) {
            x.set(0, place, place == 4 ? 3 : 2);
        }
        Due.is("itself last of all: where(0, 0, 4)", x.where(0, 0, 4), 4);
    }

    @Says(promise = 20, words = "Then palms is asked of that PLACE")
    static void inThoughtPalmsIsAskedWhenItLiesThere() {
        String when = " when full = 8 and moved = 3 and lost = 0 and palmed = 0 and place = 1";
        SleightHouse x = Scenes.houseWithLaw("palms 500" + when + ";palms 499;far 4" + when + ";far 1;");
        x.state(Scenes.stateAheadOf(999));
        x.puts(1, 0, 8);
        x.state(Scenes.stateAheadOf(999));
        x.puts(1, 0, 9);
        x.set(3, 0, 1);
        Due.is("where(0, 0, 1)", x.where(0, 0, 1), 5);
    }

    @Says(promise = 20, words = "IN THOUGHT (nothing of it stays; no DRAWS")
    static void nothingOfAPuttingInThoughtStays() {
        SleightHouse x = Scenes.houseWithLaw("palms 1000;far 2;");
        x.set(3, 0, 1);
        Due.is("where(0, 0, 4)", x.where(0, 0, 4), 6);
        Due.is("IN", x.of(0, 2), 0);
        Due.is("MOVED", x.of(0, 3), 0);
        Due.is("LOST", x.of(0, 4), 1);
        Due.is("PALMED", x.who(0, 3), 0);
        Due.is("STATE", x.look(7), 0);
        Due.is("the book", x.look(6), 0);
        Due.is("what can be undone", x.look(12), 0);
    }

    // Promise 21

    private static int bringsWith(int finds) {
        SleightHouse x = Scenes.houseWithLaw("finds " + finds + ";");
        x.set(3, 0, 1);
        return x.brings(1, 0);
    }

    @Says(promise = 21, words = "it is palmed, found, if that is 500 at least")
    static void itWouldBeFoundFrom500On() {
        Due.is("0", bringsWith(0), 0);
        Due.is("499", bringsWith(499), 0);
        Due.is("500", bringsWith(500), 1);
        Due.is("1000", bringsWith(1000), 1);
    }

    @Says(promise = 21, words = "BRINGS; NONE if it can't be")
    static void noSuchPersonOrPlaceIsThoughtOf() {
        SleightHouse x = Scenes.house();
        int[] far = {-1, MIN, MAX};
        for (int v : far) {
            Due.is("brings(" + v + ", 0)", x.brings(v, 0), NONE);
            Due.is("brings(1, " + v + ")", x.brings(1, v), NONE);
        }
        Due.is("brings(2, 0)", x.brings(2, 0), NONE);
        Due.is("brings(1, 12)", x.brings(1, 12), NONE);
    }

    @Says(promise = 21, words = "BRINGS; NONE if it can't be")
    static void whoIsTiedBringsNone() {
        SleightHouse x = Scenes.house();
        x.act(0, 1);
        Due.is("brings(1, 0)", x.brings(1, 0), NONE);
    }

    @Says(promise = 21, words = "SEARCHED one more; is it not locked")
    static void aLockedPlaceBringsNothing() {
        SleightHouse x = Scenes.houseWithLaw("finds 1000;");
        x.set(3, 0, 1);
        x.act(2, 0);
        Due.is("brings(1, 0)", x.brings(1, 0), 0);
    }

    @Says(promise = 21, words = "how many would be found")
    static void anEmptyPlaceBringsNothingButAFullOneAll() {
        SleightHouse x = new SleightHouse();
        x.person(0, 0);
        Due.is("empty", x.brings(0, 11), 0);
        for (int i = 0; i < 16; i++) {
            x.thing(1, 0, 11);
        }
        Due.is("none lost", x.brings(0, 11), 0);
        for (int i = 0; i < 16; i++) {
            x.set(3, i, 1);
        }
        Due.is("all lost", x.brings(0, 11), 16);
        Due.is("elsewhere", x.brings(0, 0), 0);
    }

    @Says(promise = 21, words = "IN THOUGHT (nothing of it stays; no DRAWS")
    static void nothingOfASearchInThoughtStays() {
        SleightHouse x = Scenes.houseWithLaw("finds 1000;");
        x.set(3, 0, 1);
        Due.is("brings(1, 0)", x.brings(1, 0), 1);
        Due.is("LOST", x.of(0, 4), 1);
        Due.is("FOUND", x.look(2), 0);
        Due.is("SEARCHED", x.place(0, 2), 0);
        Due.is("STATE", x.look(7), 0);
        Due.is("the book", x.look(6), 0);
        Due.is("what can be undone", x.look(12), 0);
    }
}
