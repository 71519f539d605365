import java.io.IOException;

/** Boundary cases of promises 33 to 43: coins, rings on a bar, hats, mirrors, clues, wills and the game. */
public final class EdgesOfRiddlesTest {
    private static final int NONE = SleightHouse.NONE;
    private static final int MIN = Integer.MIN_VALUE;
    private static final int MAX = Integer.MAX_VALUE;

    private EdgesOfRiddlesTest() {
    }

    public static void main(String[] args) throws IOException, IllegalAccessException {
        Cases.run(EdgesOfRiddlesTest.class);
    }

    // Promise 33

    @Says(promise = 33, words = "FALSE of n (2 .. 1000) coins one is lighter")
    static void coinsAre2To1000() {
        SleightHouse x = new SleightHouse();
        int[] wrong = {1, 0, -1, 1001, MIN, MAX};
        for (int n : wrong) {
            Due.is("weighings(" + n + ", 0)", x.weighings(n, 0), NONE);
            Due.is("weighings(" + n + ", 1)", x.weighings(n, 1), NONE);
        }
        Due.is("weighings(2, 0)", x.weighings(2, 0), 1);
        Due.is("weighings(1000, 0)", x.weighings(1000, 0), 7);
    }

    @Says(promise = 33, words = "NONE if n can't be (1: below 3), or another what")
    static void ofTwoCoinsTheFalseOneOfEitherKindIsNotKnown() {
        SleightHouse x = new SleightHouse();
        Due.is("weighings(2, 1)", x.weighings(2, 1), NONE);
        Due.is("weighings(3, 1)", x.weighings(3, 1), 2);
        Due.is("weighings(1000, 1)", x.weighings(1000, 1), 7);
    }

    @Says(promise = 33, words = "NONE if n can't be (1: below 3), or another what")
    static void ofCoinsAnotherWhatIsNone() {
        SleightHouse x = new SleightHouse();
        int[] others = {-1, 2, MIN, MAX};
        for (int what : others) {
            Due.is("weighings(5, " + what + ")", x.weighings(5, what), NONE);
        }
    }

    @Says(promise = 33, words = "the fewest weighings by which it is surely known")
    static void eachWeighingIsEnoughForThriceAsMany() {
        SleightHouse x = new SleightHouse();
        int most = 3;
        for (int weighings = 1; weighings <= 6; weighings++) {
            Due.is("just enough for " + most, x.weighings(most, 0), weighings);
            Due.is("one more is too many: " + (most + 1), x.weighings(most + 1, 0), weighings + 1);
            most *= 3;
        }
    }

    @Says(promise = 33, words = "if it may be lighter or heavier (n 3 at least; which one it is, not how)")
    static void ofEitherKindHalfAsManyCanBeKnown() {
        SleightHouse x = new SleightHouse();
        int most = 4;
        for (int weighings = 2; weighings <= 6; weighings++) {
            Due.is("just enough for " + most, x.weighings(most, 1), weighings);
            Due.is("one more is too many: " + (most + 1), x.weighings(most + 1, 1), weighings + 1);
            most = 3 * most + 1;
        }
    }

    // Promise 34

    @Says(promise = 34, words = "RINGS of n (1 .. 20) rings on a bar")
    static void ringsAre1To20() {
        SleightHouse x = new SleightHouse();
        int[] wrong = {0, 21, -1, MIN, MAX};
        for (int n : wrong) {
            Due.is("rings(" + n + ", -1)", x.rings(n, NONE), NONE);
            Due.is("rings(" + n + ", 0)", x.rings(n, 0), NONE);
        }
        Due.is("rings(1, -1)", x.rings(1, NONE), 1);
        Due.is("rings(20, -1)", x.rings(20, NONE), 699050);
    }

    @Says(promise = 34, words = "the fewest moves till all are off")
    static void theFewestMovesOfEachBar() {
        SleightHouse x = new SleightHouse();
        int[] due = {1, 2, 5, 10, 21, 42, 85, 170, 341, 682, 1365, 2730, 5461, 10922, 21845, 43690, 87381, 174762, 349525, 699050};
        for (int n = 1; n <= 20; n++) {
            Due.is("rings(" + n + ", -1)", x.rings(n, NONE), due[n - 1]);
        }
    }

    @Says(promise = 34, words = "the state behind m (0 .. 1000000) of these moves")
    static void behindNoMoveAllAreOn() {
        SleightHouse x = new SleightHouse();
        for (int n = 1; n <= 20; n++) {
            Due.is("rings(" + n + ", 0)", x.rings(n, 0), (1 << n) - 1);
        }
    }

    @Says(promise = 34, words = "NONE: fewer are needed")
    static void behindTheLastMoveAllAreOffAndNoMoreIsNeeded() {
        SleightHouse x = new SleightHouse();
        for (int n = 1; n <= 20; n++) {
            int fewest = x.rings(n, NONE);
            Due.is("the last but one of " + n, x.rings(n, fewest - 1), 1);
            Due.is("the last of " + n, x.rings(n, fewest), 0);
            Due.is("one more of " + n, x.rings(n, fewest + 1), NONE);
        }
    }

    @Says(promise = 34, words = "m (0 .. 1000000)")
    static void movesAre0To1000000() {
        SleightHouse x = new SleightHouse();
        int[] wrong = {-2, 1000000, 1000001, MIN, MAX};
        for (int m : wrong) {
            Due.is("rings(20, " + m + ")", x.rings(20, m), NONE);
            Due.is("rings(1, " + m + ")", x.rings(1, m), NONE);
        }
    }

    @Says(promise = 34, words = "a ring moves if the one ahead of it is on and all ahead of that one are off; the first one always")
    static void eachMoveMayBe() {
        SleightHouse x = new SleightHouse();
        for (int n = 1; n <= 8; n++) {
            for (int m = 0; m < x.rings(n, NONE); m++) {
                int changed = x.rings(n, m) ^ x.rings(n, m + 1);
                boolean first = changed == 1;
                boolean other = changed == 2 * Integer.lowestOneBit(x.rings(n, m));
                Due.is("move " + m + " of " + n, first || other, true);
            }
        }
    }

    // Promise 35

    @Says(promise = 35, words = "HATS of n (1 .. 12)")
    static void hatsAre1To12() {
        SleightHouse x = new SleightHouse();
        int[] wrong = {0, 13, -1, MIN, MAX};
        for (int n : wrong) {
            Due.is("hats(" + n + ", 0)", x.hats(n, 0), NONE);
        }
        Due.is("hats(1, 0)", x.hats(1, 0), 0);
        Due.is("hats(1, 1)", x.hats(1, 1), 1);
        Due.is("hats(12, 0)", x.hats(12, 0), 176214841);
        Due.is("hats(12, 1)", x.hats(12, 1), 176214840);
    }

    @Says(promise = 35, words = "just k (0 .. n) have")
    static void justSoManyAre0ToN() {
        SleightHouse x = new SleightHouse();
        for (int n = 1; n <= 12; n++) {
            Due.is("all of " + n, x.hats(n, n), 1);
            Due.is("all but one of " + n, x.hats(n, n - 1), 0);
            Due.is("one more than " + n, x.hats(n, n + 1), NONE);
            Due.is("below 0 of " + n, x.hats(n, -1), NONE);
        }
        Due.is("hats(5, MIN)", x.hats(5, MIN), NONE);
        Due.is("hats(5, MAX)", x.hats(5, MAX), NONE);
    }

    @Says(promise = 35, words = "in how many ways none has his own; just k (0 .. n) have")
    static void allWaysTogetherAreAllOrders() {
        SleightHouse x = new SleightHouse();
        int orders = 1;
        for (int n = 1; n <= 12; n++) {
            orders *= n;
            int sum = 0;
            for (int k = 0; k <= n; k++) {
                sum += x.hats(n, k);
            }
            Due.is("all ways of " + n, sum, orders);
        }
    }

    // Promise 36

    @Says(promise = 36, words = "mirrors told on 6 by 6 (place 0 .. 35")
    static void mirrorsAreOnPlaces0To35() {
        SleightHouse x = new SleightHouse();
        int[] wrong = {-1, 36, MIN, MAX};
        for (int place : wrong) {
            Due.is("mirror(" + place + ", 1)", x.mirror(place, 1), false);
        }
        Due.is("mirror(0, 1)", x.mirror(0, 1), true);
        Due.is("mirror(35, 1)", x.mirror(35, 1), true);
        Due.is("down at the first: glance(0, 0)", x.glance(0, 0), 18);
        Due.is("up at the last: glance(17, 0)", x.glance(17, 0), 11);
    }

    @Says(promise = 36, words = "0 none, 1 /, 2 \\")
    static void mirrorsAre0To2() {
        SleightHouse x = new SleightHouse();
        x.mirror(0, 2);
        int[] wrong = {-1, 3, MIN, MAX};
        for (int v : wrong) {
            Due.is("mirror(0, " + v + ")", x.mirror(0, v), false);
        }
        Due.is("it stays: glance(0, 0)", x.glance(0, 0), 6);
        Due.is("mirror(0, 1)", x.mirror(0, 1), true);
        Due.is("glance(0, 0)", x.glance(0, 0), 18);
        Due.is("mirror(0, 0)", x.mirror(0, 0), true);
        Due.is("glance(0, 0)", x.glance(0, 0), 12);
    }

    // Promise 37

    @Says(promise = 37, words = "NONE if one can't be, or another what")
    static void glancesComeFromEdges0To23() {
        SleightHouse x = new SleightHouse();
        int[] wrong = {-1, 24, MIN, MAX};
        for (int edge : wrong) {
            Due.is("glance(" + edge + ", 0)", x.glance(edge, 0), NONE);
            Due.is("glance(" + edge + ", 1)", x.glance(edge, 1), NONE);
        }
        int[] others = {-1, 2, MIN, MAX};
        for (int what : others) {
            Due.is("glance(0, " + what + ")", x.glance(0, what), NONE);
        }
    }

    @Says(promise = 37, words = "0 .. 5 from above by column, 6 .. 11 from the right by row")
    static void withoutMirrorsItGoesStraightThrough() {
        SleightHouse x = new SleightHouse();
        for (int edge = 0; edge < 24; edge++) {
            Due.is("glance(" + edge + ", 0)", x.glance(edge, 0), (edge + 12) % 24);
            Due.is("glance(" + edge + ", 1)", x.glance(edge, 1), 0);
        }
    }

    @Says(promise = 37, words = "12 .. 17 from below by column, 18 .. 23 from the left by row")
    static void aMirrorInEachCornerTurnsItOutAtOnce() {
        // By a corner's place: the mirror, then the two edges that meet there.
        int[][] corners = {{0, 1, 0, 18}, {5, 2, 5, 6}, {30, 2, 12, 23}, {35, 1, 17, 11}};
        for (int[] corner : corners) {
            SleightHouse x = new SleightHouse();
            x.mirror(corner[0], corner[1]);
            Due.is("glance(" + corner[2] + ", 0)", x.glance(corner[2], 0), corner[3]);
            Due.is("glance(" + corner[3] + ", 0)", x.glance(corner[3], 0), corner[2]);
            Due.is("glance(" + corner[2] + ", 1)", x.glance(corner[2], 1), 1);
        }
    }

    @Says(promise = 37, words = "comes out at which edge")
    static void eachSideOfBothMirrors() {
        int[][] slash = {{3, 20}, {20, 3}, {8, 15}, {15, 8}};
        int[][] back = {{3, 8}, {8, 3}, {20, 15}, {15, 20}};
        SleightHouse x = new SleightHouse();
        x.mirror(15, 1);
        for (int[] pair : slash) {
            Due.is("/: glance(" + pair[0] + ", 0)", x.glance(pair[0], 0), pair[1]);
        }
        x.mirror(15, 2);
        for (int[] pair : back) {
            Due.is("\\: glance(" + pair[0] + ", 0)", x.glance(pair[0], 0), pair[1]);
        }
    }

    @Says(promise = 37, words = "one met twice counts twice")
    static void aMirrorMetTwiceCountsTwice() {
        SleightHouse x = new SleightHouse();
        // Into row 1 from the right: up at 7, left at 1, down at 0, right at 6, and at 7 once more, down.
        x.mirror(7, 2);
        x.mirror(1, 2);
        x.mirror(0, 1);
        x.mirror(6, 2);
        Due.is("glance(7, 1)", x.glance(7, 1), 5);
        Due.is("glance(7, 0)", x.glance(7, 0), 13);
    }

    @Says(promise = 37, words = "how many mirrors it meets")
    static void itMeetsManyMirrorsOnAFullBoard() {
        SleightHouse x = new SleightHouse();
        for (int place = 0; place < 36; place++) {
            x.mirror(place, 1);
        }
        Due.is("out at the first corner: glance(0, 1)", x.glance(0, 1), 1);
        Due.is("out at the last corner: glance(17, 1)", x.glance(17, 1), 1);
        Due.is("the longest stairs: glance(6, 1)", x.glance(6, 1), 11);
        Due.is("glance(6, 0)", x.glance(6, 0), 12);
        Due.is("glance(5, 1)", x.glance(5, 1), 11);
        Due.is("glance(5, 0)", x.glance(5, 0), 23);
    }

    @Says(promise = 37, words = "how many mirrors it meets (one met twice counts twice)")
    static void aLongGlanceMeetsManyMirrorsTwice() {
        String board = "/\\///\\" + "\\\\////" + "////\\\\" + "\\\\////" + "//\\\\\\\\" + "\\/\\/\\/";
        SleightHouse x = new SleightHouse();
        for (int place = 0; place < 36; place++) {
            x.mirror(place, board.charAt(place) == '/' ? 1 : 2);
        }
        Due.is("54 times on 36 places: glance(3, 1)", x.glance(3, 1), 54);
        Due.is("glance(3, 0)", x.glance(3, 0), 4);
        Due.is("and back: glance(4, 1)", x.glance(4, 1), 54);
        Due.is("glance(4, 0)", x.glance(4, 0), 3);
    }

    // Promise 38

    @Says(promise = 38, words = "THING a 0 .. 7 is, or is not, IN PLACE b 0 .. 7")
    static void cluesAreOfThingsAndPlaces0To7() {
        SleightHouse x = new SleightHouse();
        int[] wrong = {-2, 8, MIN, MAX};
        for (int v : wrong) {
            Due.is("clue(" + v + ", 0, true)", x.clue(v, 0, true), NONE);
            Due.is("clue(0, " + v + ", true)", x.clue(0, v, true), NONE);
        }
        Due.is("clue(0, -1, true)", x.clue(0, NONE, true), NONE);
        Due.is("clue(0, 7, true)", x.clue(0, 7, true), 1);
        Due.is("clue(7, 0, false)", x.clue(7, 0, false), 2);
    }

    @Says(promise = 38, words = "NONE if one can't be, or there are ten")
    static void theTenthClueIsTheLast() {
        SleightHouse x = new SleightHouse();
        for (int i = 1; i <= 10; i++) {
            Due.is("clue " + i, x.clue(0, 0, true), i);
        }
        Due.is("the 11th", x.clue(0, 1, true), NONE);
        Due.is("changes nothing: fits(-1)", x.fits(NONE), 5040);
    }

    @Says(promise = 38, words = "A clue for MUST (thing NONE: none is then)")
    static void withNoneAllCluesAreGone() {
        SleightHouse x = new SleightHouse();
        Due.is("of none: clue(-1, 0, true)", x.clue(NONE, 0, true), 0);
        for (int i = 0; i < 10; i++) {
            x.clue(0, 0, true);
        }
        Due.is("of ten: clue(-1, 99, false)", x.clue(NONE, 99, false), 0);
        Due.is("fits(-1)", x.fits(NONE), 40320);
        Due.is("clue(0, 0, true)", x.clue(0, 0, true), 1);
    }

    @Says(promise = 38, words = "THING a 0 .. 7 is, or is not, IN PLACE b 0 .. 7")
    static void cluesNeedNoThingsInTheHouse() {
        SleightHouse x = new SleightHouse();
        Due.is("no thing: look(0)", x.look(0), 0);
        Due.is("clue(7, 7, true)", x.clue(7, 7, true), 1);
        Due.is("fits(7)", x.fits(7), 7);
    }

    // Promise 39

    @Says(promise = 39, words = "SURE of a THING (no way: NONE). NONE if one can't be")
    static void onlyThings0To7AreSure() {
        SleightHouse x = new SleightHouse();
        x.clue(7, 3, true);
        Due.is("fits(7)", x.fits(7), 3);
        int[] wrong = {-2, 8, MIN, MAX};
        for (int thing : wrong) {
            Due.is("fits(" + thing + ")", x.fits(thing), NONE);
        }
    }

    @Says(promise = 39, words = "each PLACE has one of THINGS 0 .. 7")
    static void withoutCluesAllOrdersFitAndNoneIsSure() {
        SleightHouse x = new SleightHouse();
        Due.is("fits(-1)", x.fits(NONE), 40320);
        for (int thing = 0; thing < 8; thing++) {
            Due.is("fits(" + thing + ")", x.fits(thing), NONE);
        }
    }

    @Says(promise = 39, words = "SURE of a THING (no way: NONE)")
    static void ifThereIsNoWayNothingIsSure() {
        SleightHouse x = new SleightHouse();
        x.clue(0, 3, true);
        x.clue(1, 3, true);
        Due.is("two in one place: fits(-1)", x.fits(NONE), 0);
        Due.is("fits(0)", x.fits(0), NONE);
        Due.is("fits(1)", x.fits(1), NONE);
        x.clue(NONE, 0, true);
        x.clue(0, 3, true);
        x.clue(0, 3, false);
        Due.is("is and is not: fits(-1)", x.fits(NONE), 0);
        Due.is("fits(0)", x.fits(0), NONE);
    }

    @Says(promise = 39, words = "SURE: the PLACE of THING a in all of them (NONE)")
    static void theLastPlaceLeftIsSure() {
        SleightHouse x = new SleightHouse();
        for (int place = 0; place < 6; place++) {
            x.clue(0, place, false);
        }
        Due.is("6 or 7: fits(0)", x.fits(0), NONE);
        Due.is("fits(-1)", x.fits(NONE), 10080);
        x.clue(0, 6, false);
        Due.is("7: fits(0)", x.fits(0), 7);
        Due.is("fits(-1)", x.fits(NONE), 5040);
        x.clue(0, 7, false);
        Due.is("nowhere: fits(0)", x.fits(0), NONE);
        Due.is("fits(-1)", x.fits(NONE), 0);
    }

    @Says(promise = 39, words = "FITS: in how many ways; SURE")
    static void whatTheOthersLeaveIsSure() {
        SleightHouse x = new SleightHouse();
        for (int thing = 0; thing < 7; thing++) {
            x.clue(thing, 7 - thing, true);
        }
        Due.is("one way: fits(-1)", x.fits(NONE), 1);
        Due.is("fits(7)", x.fits(7), 0);
    }

    // Promise 40

    @Says(promise = 40, words = "told shares (up to 6: 1 .. 30 parts)")
    static void sharesAre1To30() {
        SleightHouse x = new SleightHouse();
        int[] wrong = {0, 31, -2, MIN, MAX};
        for (int parts : wrong) {
            Due.is("share(" + parts + ")", x.share(parts), NONE);
        }
        Due.is("share(1)", x.share(1), 1);
        Due.is("share(30)", x.share(30), 2);
    }

    @Says(promise = 40, words = "NONE if one can't be, or there are six")
    static void theSixthShareIsTheLast() {
        SleightHouse x = new SleightHouse();
        for (int i = 1; i <= 6; i++) {
            Due.is("share " + i, x.share(1), i);
        }
        Due.is("the 7th", x.share(1), NONE);
        Due.is("gets(6, 5)", x.gets(6, 5), 1);
        Due.is("gets(6, 6)", x.gets(6, 6), NONE);
    }

    @Says(promise = 40, words = "A share of WILL (NONE: none is then)")
    static void withNoneAllSharesAreGone() {
        SleightHouse x = new SleightHouse();
        Due.is("of none: share(-1)", x.share(NONE), 0);
        for (int i = 0; i < 6; i++) {
            x.share(1);
        }
        Due.is("of six: share(-1)", x.share(NONE), 0);
        Due.is("gets(6, 0)", x.gets(6, 0), NONE);
        Due.is("share(2)", x.share(2), 1);
        Due.is("gets(6, 0)", x.gets(6, 0), 6);
    }

    // Promise 41

    @Says(promise = 41, words = "of a WORTH w (0 .. 9999)")
    static void aWillIsWorth0To9999() {
        SleightHouse x = new SleightHouse();
        x.share(30);
        int[] wrong = {-1, 10000, MIN, MAX};
        for (int w : wrong) {
            Due.is("gets(" + w + ", 0)", x.gets(w, 0), NONE);
        }
        Due.is("gets(0, 0)", x.gets(0, 0), 0);
        Due.is("gets(9999, 0)", x.gets(9999, 0), 9999);
        x.share(15);
        Due.is("of two: gets(-1, 0)", x.gets(-1, 0), NONE);
        Due.is("of two: gets(10000, 0)", x.gets(10000, 0), NONE);
        Due.is("of two: gets(9999, 0)", x.gets(9999, 0), 6666);
    }

    @Says(promise = 41, words = "GETS of the i-th of w. NONE if one can't be")
    static void onlyWhoHasAShareGets() {
        SleightHouse x = new SleightHouse();
        Due.is("no share: gets(5, 0)", x.gets(5, 0), NONE);
        x.share(1);
        x.share(1);
        int[] wrong = {-1, 2, 6, MIN, MAX};
        for (int i : wrong) {
            Due.is("gets(5, " + i + ")", x.gets(5, i), NONE);
        }
        Due.is("gets(5, 1)", x.gets(5, 1), 2);
    }

    @Says(promise = 41, words = "the rest one by one to the greatest remainders (of several the first told)")
    static void ofRemaindersThatAreAlikeTheFirstToldGetsMore() {
        SleightHouse x = new SleightHouse();
        for (int i = 0; i < 6; i++) {
            x.share(1);
        }
        for (int w = 0; w <= 12; w++) {
            for (int i = 0; i < 6; i++) {
                Due.is("gets(" + w + ", " + i + ")", x.gets(w, i), w / 6 + (i < w % 6 ? 1 : 0));
            }
        }
    }

    @Says(promise = 41, words = "the rest one by one to the greatest remainders (of several the first told)")
    static void theGreatestRemainderGetsMoreWhereverItIsTold() {
        SleightHouse x = new SleightHouse();
        x.share(1);
        x.share(2);
        x.share(4);
        // Of 10 by 7 parts: 1 3/7, 2 6/7, 5 5/7: two are left, for the second and the third.
        Due.is("gets(10, 0)", x.gets(10, 0), 1);
        Due.is("gets(10, 1)", x.gets(10, 1), 3);
        Due.is("gets(10, 2)", x.gets(10, 2), 6);
    }

    @Says(promise = 41, words = "each gets whole ones by parts, downwards")
    static void ifNoneIsLeftNobodyGetsMore() {
        SleightHouse x = new SleightHouse();
        x.share(1);
        x.share(29);
        Due.is("gets(9990, 0)", x.gets(9990, 0), 333);
        Due.is("gets(9990, 1)", x.gets(9990, 1), 9657);
        Due.is("of less than the parts: gets(1, 0)", x.gets(1, 0), 0);
        Due.is("gets(1, 1)", x.gets(1, 1), 1);
    }

    // Promise 42

    @Says(promise = 42, words = "GAME of up to 5 told rows (0 .. 30 cups)")
    static void rowsHave0To30Cups() {
        SleightHouse x = new SleightHouse();
        int[] wrong = {-2, 31, MIN, MAX};
        for (int cups : wrong) {
            Due.is("row(" + cups + ")", x.row(cups), NONE);
        }
        Due.is("row(0)", x.row(0), 1);
        Due.is("row(30)", x.row(30), 2);
    }

    @Says(promise = 42, words = "NONE if one can't be, or there are five")
    static void theFifthRowIsTheLast() {
        SleightHouse x = new SleightHouse();
        for (int i = 1; i <= 5; i++) {
            Due.is("row " + i, x.row(0), i);
        }
        Due.is("the 6th", x.row(1), NONE);
        Due.is("nothing to take: game(0)", x.game(0), NONE);
    }

    @Says(promise = 42, words = "A row of GAME (NONE: none is then)")
    static void withNoneAllRowsAreGone() {
        SleightHouse x = new SleightHouse();
        Due.is("of none: row(-1)", x.row(NONE), 0);
        for (int i = 0; i < 5; i++) {
            x.row(1);
        }
        Due.is("of five: row(-1)", x.row(NONE), 0);
        Due.is("game(0)", x.game(0), NONE);
        Due.is("row(1)", x.row(1), 1);
        Due.is("the one row alone: game(1)", x.game(1), 1);
    }

    // Promise 43

    @Says(promise = 43, words = "NONE if who begins loses, or for another what")
    static void ofTheGameAnotherWhatIsNone() {
        SleightHouse x = new SleightHouse();
        x.row(1);
        int[] others = {-1, 2, MIN, MAX};
        for (int what : others) {
            Due.is("game(" + what + ")", x.game(what), NONE);
        }
        Due.is("game(0)", x.game(0), 0);
    }

    @Says(promise = 43, words = "NONE if who begins loses, or for another what")
    static void whereNothingIsLeftToTakeWhoBeginsLoses() {
        SleightHouse x = new SleightHouse();
        Due.is("no row: game(0)", x.game(0), NONE);
        Due.is("game(1)", x.game(1), NONE);
        for (int i = 0; i < 5; i++) {
            x.row(0);
        }
        Due.is("rows of 0: game(0)", x.game(0), NONE);
        Due.is("game(1)", x.game(1), NONE);
    }

    @Says(promise = 43, words = "NONE if who begins loses, or for another what")
    static void ofTwoRowsAlikeWhoBeginsLoses() {
        for (int cups = 1; cups <= 30; cups++) {
            SleightHouse x = new SleightHouse();
            x.row(cups);
            x.row(cups);
            Due.is("two rows of " + cups, x.game(0), NONE);
            Due.is("two rows of " + cups, x.game(1), NONE);
        }
    }

    @Says(promise = 43, words = "at least one, no more than half of it, upwards; who takes the last cup of all wins")
    static void ofOneRowHalfIsTakenUpwards() {
        // 1: the last one. 2: only one may be taken, and then the other: lost. 3: down to 2. 4, 5: down to 2. 6: lost.
        int[] due = {NONE, 1, NONE, 1, 2, 3, NONE, 1, 2, 3, 4, 5, 6, 7, NONE, 1};
        for (int cups = 0; cups < due.length; cups++) {
            SleightHouse x = new SleightHouse();
            x.row(cups);
            Due.is("a row of " + cups + ": game(1)", x.game(1), due[cups]);
            Due.is("a row of " + cups + ": game(0)", x.game(0), due[cups] == NONE ? NONE : 0);
        }
        SleightHouse x = new SleightHouse();
        x.row(30);
        Due.is("30: lost", x.game(1), NONE);
        x.row(NONE);
        x.row(29);
        Due.is("29: down to 14", x.game(1), 15);
    }

    @Says(promise = 43, words = "the row (of several the first), how many (the fewest)")
    static void ofSeveralGoodRowsTheFirst() {
        SleightHouse x = new SleightHouse();
        x.row(0);
        x.row(4);
        x.row(4);
        x.row(5);
        // They are worth 0, 1, 1 and 3: 4 down to 3, which is worth 2 and 1 and 3; and so would others do.
        Due.is("game(0)", x.game(0), 1);
        Due.is("game(1)", x.game(1), 1);
    }

    @Says(promise = 43, words = "the row (of several the first), how many (the fewest)")
    static void theLastOfFiveRowsMayBeTheOne() {
        SleightHouse x = new SleightHouse();
        for (int i = 0; i < 4; i++) {
            x.row(1);
        }
        x.row(3);
        Due.is("game(0)", x.game(0), 4);
        Due.is("game(1)", x.game(1), 1);
    }

    /** All that was told for thought and asked of it, in one number. */
    private static long allAnswers(SleightHouse x) {
        long all = 0;
        for (int i = -2; i < 12; i++) {
            all = all * 31 + x.game(i);
            all = all * 31 + x.under(i);
            all = all * 31 + x.fits(i);
            all = all * 31 + x.gets(100, i);
            all = all * 31 + x.boxes(i);
            all = all * 31 + x.opened(i);
            all = all * 31 + x.card(30, i);
            all = all * 31 + x.heir(i);
            all = all * 31 + x.glance(i, 0);
            all = all * 31 + x.ring(12, 3, i);
        }
        return all;
    }

    @Says(promise = 43, words = "IN THOUGHT (nothing of it stays")
    static void whatWasAskedAheadDoesNotMatter() {
        SleightHouse x = Scenes.family(3, "person 0 child of 1;");
        x.row(1);
        x.row(30);
        x.clue(0, 1, false);
        x.swap(2, 3);
        x.box(3, 4);
        x.key(0, 1);
        x.share(7);
        x.mirror(3, 1);
        x.fits(NONE);
        // Who begins a row of 30 loses: so the 1 is taken.
        Due.is("game(0)", x.game(0), 0);
        Due.is("game(1)", x.game(1), 1);
        long first = allAnswers(x);
        Due.is("asked again", allAnswers(x) == first, true);
    }
}
