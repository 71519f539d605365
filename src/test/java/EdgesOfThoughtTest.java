import java.io.IOException;

/** Boundary cases of promises 22 to 32: cups, cards, boxes, keys, the ring and the heir. */
public final class EdgesOfThoughtTest {
    private static final int NONE = SleightHouse.NONE;
    private static final int MIN = Integer.MIN_VALUE;
    private static final int MAX = Integer.MAX_VALUE;

    private EdgesOfThoughtTest() {
    }

    public static void main(String[] args) throws IOException, IllegalAccessException {
        Cases.run(EdgesOfThoughtTest.class);
    }

    // Promise 22

    @Says(promise = 22, words = "CUPS 0 .. 9")
    static void onlyCupsThatThereAreAreChanged() {
        SleightHouse x = new SleightHouse();
        int[] wrong = {-2, 10, MIN, MAX};
        for (int cup : wrong) {
            Due.is("swap(" + cup + ", 0)", x.swap(cup, 0), NONE);
            Due.is("swap(0, " + cup + ")", x.swap(0, cup), NONE);
        }
        Due.is("swap(0, -1)", x.swap(0, NONE), NONE);
        Due.is("the outermost: swap(0, 9)", x.swap(0, 9), 1);
        Due.is("swap(9, 0)", x.swap(9, 0), 2);
    }

    @Says(promise = 22, words = "NONE if one can't be (alike), or there are sixteen")
    static void aCupIsNotChangedWithItself() {
        SleightHouse x = new SleightHouse();
        for (int cup = 0; cup < 10; cup++) {
            Due.is("swap(" + cup + ", " + cup + ")", x.swap(cup, cup), NONE);
        }
        Due.is("under(-2)", x.under(-2), 1);
    }

    @Says(promise = 22, words = "NONE if one can't be (alike), or there are sixteen")
    static void theSixteenthChangeIsTheLast() {
        SleightHouse x = new SleightHouse();
        for (int i = 1; i <= 16; i++) {
            Due.is("change " + i, x.swap(0, i % 9 + 1), i);
        }
        int under = x.under(0);
        Due.is("the 17th", x.swap(0, 1), NONE);
        Due.is("changes nothing", x.under(0), under);
        Due.is("even", x.under(-2), 1);
    }

    @Says(promise = 22, words = "A change of CUPS (a NONE: none is then)")
    static void withNoneAllChangesAreGone() {
        SleightHouse x = new SleightHouse();
        Due.is("of none: swap(-1, 0)", x.swap(NONE, 0), 0);
        for (int i = 0; i < 16; i++) {
            x.swap(0, 1 + i % 2);
        }
        Due.is("of sixteen: swap(-1, -1)", x.swap(NONE, NONE), 0);
        Due.is("under(0)", x.under(0), 0);
        Due.is("swap(0, 1)", x.swap(0, 1), 1);
    }

    // Promise 23

    @Says(promise = 23, words = "CUPS: UNDER of cup c")
    static void withoutChangesEachIsWhereItWas() {
        SleightHouse x = new SleightHouse();
        for (int cup = 0; cup < 10; cup++) {
            Due.is("under(" + cup + ")", x.under(cup), cup);
        }
        Due.is("LEAST", x.under(NONE), 0);
        Due.is("even", x.under(NONE - 1), 1);
    }

    @Says(promise = 23, words = "CUPS: UNDER of cup c; LEAST (c NONE); whether even (c NONE - 1: 1, 0). NONE if one can't be")
    static void underNoSuchCupIsNone() {
        SleightHouse x = new SleightHouse();
        int[] wrong = {-3, 10, MIN, MAX};
        for (int cup : wrong) {
            Due.is("under(" + cup + ")", x.under(cup), NONE);
        }
        Due.is("the last cup: under(9)", x.under(9), 9);
    }

    @Says(promise = 23, words = "LEAST: the fewest changes of two that do the same")
    static void theLeastIs9AtMost() {
        SleightHouse x = new SleightHouse();
        for (int i = 0; i < 9; i++) {
            x.swap(i, i + 1);
            Due.is("in one circle", x.under(NONE), i + 1);
        }
    }

    @Says(promise = 23, words = "LEAST: the fewest changes of two that do the same")
    static void aChangeAndBackIsNone() {
        SleightHouse x = new SleightHouse();
        x.swap(3, 4);
        Due.is("there", x.under(NONE), 1);
        x.swap(4, 3);
        Due.is("and back", x.under(NONE), 0);
        Due.is("even", x.under(NONE - 1), 1);
    }

    @Says(promise = 23, words = "whether a number of changes that is even does")
    static void evenTellsTheNumberOfChanges() {
        SleightHouse x = new SleightHouse();
        for (int i = 1; i <= 16; i++) {
            x.swap(i % 5, 9 - i % 4);
            Due.is("behind " + i, x.under(NONE - 1), i % 2 == 0 ? 1 : 0);
        }
    }

    // Promise 24

    @Says(promise = 24, words = "told picks (up to 4 of 0 .. 2)")
    static void onlyThreePilesArePicked() {
        SleightHouse x = new SleightHouse();
        int[] wrong = {-2, 3, MIN, MAX};
        for (int pile : wrong) {
            Due.is("pick(" + pile + ")", x.pick(pile), NONE);
        }
        Due.is("pick(0)", x.pick(0), 1);
        Due.is("pick(2)", x.pick(2), 2);
    }

    @Says(promise = 24, words = "NONE if one can't be, or there are four")
    static void theFourthPickIsTheLast() {
        SleightHouse x = new SleightHouse();
        for (int i = 1; i <= 4; i++) {
            Due.is("pick " + i, x.pick(0), i);
        }
        int at = x.card(30, 7);
        Due.is("the 5th", x.pick(2), NONE);
        Due.is("changes nothing", x.card(30, 7), at);
    }

    @Says(promise = 24, words = "A pick of CARDS (NONE: none is then)")
    static void withNoneAllPicksAreGone() {
        SleightHouse x = new SleightHouse();
        Due.is("of none: pick(-1)", x.pick(NONE), 0);
        for (int i = 0; i < 4; i++) {
            x.pick(0);
        }
        Due.is("of four: pick(-1)", x.pick(NONE), 0);
        Due.is("card(30, 7)", x.card(30, 7), 7);
        Due.is("pick(0)", x.pick(0), 1);
    }

    // Promise 25

    @Says(promise = 25, words = "CARDS of n (3 .. 30, by 3)")
    static void cardsComeBy3From3To30() {
        SleightHouse x = new SleightHouse();
        for (int n = -3; n <= 36; n++) {
            boolean can = n >= 3 && n <= 30 && n % 3 == 0;
            Due.is("card(" + n + ", 0)", x.card(n, 0), can ? 0 : NONE);
            Due.is("card(" + n + ", -1) above 0", x.card(n, NONE) > 0, can);
        }
        Due.is("card(MIN, 0)", x.card(MIN, 0), NONE);
        Due.is("card(MAX, 0)", x.card(MAX, 0), NONE);
    }

    @Says(promise = 25, words = "c (0 .. n - 1)")
    static void onlyACardThatThereIsIsAskedFor() {
        SleightHouse x = new SleightHouse();
        Due.is("card(30, 29)", x.card(30, 29), 29);
        Due.is("card(30, 30)", x.card(30, 30), NONE);
        Due.is("card(3, 2)", x.card(3, 2), 2);
        Due.is("card(3, 3)", x.card(3, 3), NONE);
        Due.is("card(3, -2)", x.card(3, -2), NONE);
        Due.is("card(3, MIN)", x.card(3, MIN), NONE);
        Due.is("card(3, MAX)", x.card(3, MAX), NONE);
    }

    @Says(promise = 25, words = "of the two other piles the lesser one first, then the told one, then the greater one")
    static void pilesAreGatheredByThePick() {
        int[][] due = {{3, 4, 0, 1, 6, 7}, {0, 1, 3, 4, 6, 7}, {0, 1, 6, 7, 3, 4}};
        for (int pick = 0; pick < 3; pick++) {
            SleightHouse x = new SleightHouse();
            x.pick(pick);
            int[] cards = {0, 3, 1, 4, 2, 5};
            for (int i = 0; i < 6; i++) {
                Due.is("pick " + pick + ", card " + cards[i], x.card(9, cards[i]), due[pick][i]);
            }
        }
    }

    @Says(promise = 25, words = "PILE: where card c is behind all picks (0 the first to be dealt next)")
    static void ofThreeCardsTheOrderOfThePilesIsLeft() {
        int[][] due = {{1, 0, 2}, {0, 1, 2}, {0, 2, 1}};
        for (int pick = 0; pick < 3; pick++) {
            SleightHouse x = new SleightHouse();
            x.pick(pick);
            for (int card = 0; card < 3; card++) {
                Due.is("pick " + pick + ", card " + card, x.card(3, card), due[pick][card]);
            }
        }
    }

    @Says(promise = 25, words = "how often pile 1 must be picked till each card is where it was (99 at most; NONE)")
    static void howOftenPile1MustBePicked() {
        // Three times its new place is, modulo n - 1, its old one: so it takes as often as 3 must be multiplied to be 1.
        int[] due = {1, 4, 2, 5, 6, 16, 4, 11, 3, 28};
        SleightHouse x = new SleightHouse();
        for (int i = 0; i < due.length; i++) {
            Due.is("card(" + 3 * (i + 1) + ", -1)", x.card(3 * (i + 1), NONE), due[i]);
        }
    }

    @Says(promise = 25, words = "how often pile 1 must be picked till each card is where it was (99 at most; NONE)")
    static void toldPicksDoNotMatterForHowOften() {
        SleightHouse x = new SleightHouse();
        x.pick(0);
        x.pick(2);
        Due.is("card(6, -1)", x.card(6, NONE), 4);
    }

    // Promise 26

    @Says(promise = 26, words = "long, broad 1 .. 30")
    static void sidesOfABoxAreFrom1To30() {
        SleightHouse x = new SleightHouse();
        int[] wrong = {0, 31, -2, MIN, MAX};
        for (int side : wrong) {
            Due.is("box(" + side + ", 5)", x.box(side, 5), NONE);
            Due.is("box(5, " + side + ")", x.box(5, side), NONE);
        }
        Due.is("box(5, -1)", x.box(5, NONE), NONE);
        Due.is("box(1, 1)", x.box(1, 1), 1);
        Due.is("box(30, 30)", x.box(30, 30), 2);
        Due.is("box(1, 30)", x.box(1, 30), 3);
    }

    @Says(promise = 26, words = "NONE if one can't be, or there are eight")
    static void theEighthBoxIsTheLast() {
        SleightHouse x = new SleightHouse();
        for (int i = 1; i <= 8; i++) {
            Due.is("box " + i, x.box(i, i), i);
        }
        Due.is("the 9th", x.box(9, 9), NONE);
        Due.is("boxes(0)", x.boxes(0), 8);
        Due.is("boxes(1)", x.boxes(1), 7);
    }

    @Says(promise = 26, words = "A box (far NONE: none is then)")
    static void withNoneAllBoxesAreGone() {
        SleightHouse x = new SleightHouse();
        Due.is("of none: box(-1, 1)", x.box(NONE, 1), 0);
        for (int i = 1; i <= 8; i++) {
            x.box(i, i);
        }
        Due.is("of eight: box(-1, 99)", x.box(NONE, 99), 0);
        Due.is("boxes(0)", x.boxes(0), 0);
        Due.is("box(1, 1)", x.box(1, 1), 1);
    }

    // Promise 27

    @Says(promise = 27, words = "BOXES what 0 how many, 1 the outermost (NONE)")
    static void ofNoBoxesThereIsNoOutermost() {
        SleightHouse x = new SleightHouse();
        Due.is("boxes(0)", x.boxes(0), 0);
        Due.is("boxes(1)", x.boxes(1), NONE);
    }

    @Says(promise = 27, words = "NONE for another what")
    static void ofBoxesAnotherWhatIsNone() {
        SleightHouse x = new SleightHouse();
        x.box(1, 1);
        int[] others = {-1, 2, MIN, MAX};
        for (int what : others) {
            Due.is("boxes(" + what + ")", x.boxes(what), NONE);
        }
    }

    @Says(promise = 27, words = "the most that go into one another (less both ways)")
    static void aSideThatIsAlikeDoesNotGoIn() {
        SleightHouse x = new SleightHouse();
        x.box(5, 10);
        x.box(5, 9);
        Due.is("one side alike", x.boxes(0), 1);
        x.box(NONE, 0);
        x.box(5, 10);
        x.box(4, 10);
        Due.is("the other side alike", x.boxes(0), 1);
        x.box(NONE, 0);
        x.box(5, 10);
        x.box(5, 10);
        Due.is("both alike", x.boxes(0), 1);
        x.box(NONE, 0);
        x.box(5, 10);
        x.box(4, 9);
        Due.is("both one less", x.boxes(0), 2);
    }

    @Says(promise = 27, words = "a box may be turned")
    static void aBoxMayBeTurned() {
        SleightHouse x = new SleightHouse();
        x.box(10, 5);
        x.box(4, 9);
        Due.is("4 by 9 into 10 by 5", x.boxes(0), 2);
        Due.is("boxes(1)", x.boxes(1), 0);
    }

    @Says(promise = 27, words = "the outermost one (the least)")
    static void ofSeveralOutermostOnesTheLeast() {
        SleightHouse x = new SleightHouse();
        x.box(1, 1);
        x.box(5, 10);
        x.box(6, 9);
        x.box(2, 2);
        Due.is("boxes(0)", x.boxes(0), 3);
        Due.is("boxes(1)", x.boxes(1), 1);
    }

    @Says(promise = 27, words = "the outermost one (the least)")
    static void ofBoxesThatAreApartTheFirst() {
        SleightHouse x = new SleightHouse();
        x.box(1, 30);
        x.box(2, 29);
        x.box(3, 28);
        Due.is("boxes(0)", x.boxes(0), 1);
        Due.is("boxes(1)", x.boxes(1), 0);
    }

    // Promise 28

    @Says(promise = 28, words = "in box a of 0 .. 9 lies the key of b")
    static void keysAreOfBoxes0To9() {
        SleightHouse x = new SleightHouse();
        int[] wrong = {-2, 10, MIN, MAX};
        for (int box : wrong) {
            Due.is("key(" + box + ", 0)", x.key(box, 0), NONE);
            Due.is("key(0, " + box + ")", x.key(0, box), NONE);
        }
        Due.is("key(0, -1)", x.key(0, NONE), NONE);
        Due.is("key(0, 9)", x.key(0, 9), 1);
        Due.is("key(9, 0)", x.key(9, 0), 2);
    }

    @Says(promise = 28, words = "NONE if one can't be, or there are twelve")
    static void theTwelfthKeyIsTheLast() {
        SleightHouse x = new SleightHouse();
        for (int i = 1; i <= 12; i++) {
            Due.is("key " + i, x.key(0, i % 9), i);
        }
        Due.is("the 13th", x.key(0, 9), NONE);
        Due.is("opened(1)", x.opened(1), 511);
    }

    @Says(promise = 28, words = "A key (a NONE: none is then)")
    static void withNoneAllKeysAreGone() {
        SleightHouse x = new SleightHouse();
        Due.is("of none: key(-1, 0)", x.key(NONE, 0), 0);
        for (int i = 0; i < 12; i++) {
            x.key(0, 1);
        }
        Due.is("of twelve: key(-1, 99)", x.key(NONE, 99), 0);
        Due.is("opened(1)", x.opened(1), 1);
        Due.is("key(0, 1)", x.key(0, 1), 1);
    }

    // Promise 29

    @Says(promise = 29, words = "OPENED from a set of 10; FORCED (open NONE). NONE if one can't be")
    static void onlyASetOfTenIsOpen() {
        SleightHouse x = new SleightHouse();
        Due.is("opened(0)", x.opened(0), 0);
        Due.is("opened(1023)", x.opened(1023), 1023);
        Due.is("opened(1024)", x.opened(1024), NONE);
        Due.is("opened(-2)", x.opened(-2), NONE);
        Due.is("opened(MIN)", x.opened(MIN), NONE);
        Due.is("opened(MAX)", x.opened(MAX), NONE);
    }

    @Says(promise = 29, words = "OPENED from a set of open ones: all that can be opened")
    static void keysOpenOnAndOn() {
        SleightHouse x = new SleightHouse();
        for (int i = 8; i >= 0; i--) {
            x.key(i, i + 1);
        }
        Due.is("from the first all", x.opened(1), 1023);
        Due.is("from the last itself", x.opened(512), 512);
        Due.is("from none none", x.opened(0), 0);
    }

    @Says(promise = 29, words = "FORCED: the fewest that must be forced so that all ten are open: how many")
    static void withoutKeysAllTenAreForced() {
        Due.is("opened(-1)", new SleightHouse().opened(NONE), 10);
    }

    @Says(promise = 29, words = "FORCED: the fewest that must be forced so that all ten are open: how many")
    static void aBoxWithItsOwnKeyIsForced() {
        SleightHouse x = new SleightHouse();
        x.key(3, 3);
        Due.is("opened(-1)", x.opened(NONE), 10);
    }

    @Says(promise = 29, words = "FORCED: the fewest that must be forced so that all ten are open: how many")
    static void ofACircleOneIsForced() {
        SleightHouse x = new SleightHouse();
        for (int i = 0; i < 10; i++) {
            x.key(i, (i + 1) % 10);
        }
        Due.is("opened(-1)", x.opened(NONE), 1);
        x.key(NONE, 0);
        x.key(4, 5);
        x.key(5, 4);
        x.key(7, 8);
        x.key(8, 7);
        Due.is("two circles of two", x.opened(NONE), 8);
        x.key(4, 8);
        Due.is("the one opens the other", x.opened(NONE), 7);
    }

    // Promise 30

    @Says(promise = 30, words = "RING of n (1 .. 40)")
    static void aRingHas1To40() {
        SleightHouse x = new SleightHouse();
        int[] wrong = {0, 41, -1, MIN, MAX};
        for (int n : wrong) {
            Due.is("ring(" + n + ", 1, -1)", x.ring(n, 1, NONE), NONE);
            Due.is("ring(" + n + ", 1, 0)", x.ring(n, 1, 0), NONE);
        }
        Due.is("ring(1, 1, -1)", x.ring(1, 1, NONE), 0);
        Due.is("ring(1, 1, 0)", x.ring(1, 1, 0), 1);
        Due.is("ring(40, 1, -1)", x.ring(40, 1, NONE), 39);
        Due.is("ring(40, 1, 39)", x.ring(40, 1, 39), 40);
    }

    @Says(promise = 30, words = "every k-th (1 .. 20)")
    static void theyGoOutEvery1stTo20th() {
        SleightHouse x = new SleightHouse();
        int[] wrong = {0, 21, -1, MIN, MAX};
        for (int k : wrong) {
            Due.is("ring(5, " + k + ", -1)", x.ring(5, k, NONE), NONE);
            Due.is("ring(5, " + k + ", 0)", x.ring(5, k, 0), NONE);
        }
        Due.is("every one: ring(5, 1, 0)", x.ring(5, 1, 0), 1);
        Due.is("every 20th of 40: ring(40, 20, 19)", x.ring(40, 20, 19), 1);
        Due.is("ring(40, 20, 39)", x.ring(40, 20, 39), 2);
    }

    @Says(promise = 30, words = "every k-th (1 .. 20) from the first one on")
    static void theCountGoesAroundASmallRing() {
        SleightHouse x = new SleightHouse();
        Due.is("the 20th of 3 is the second: ring(3, 20, 1)", x.ring(3, 20, 1), 1);
        Due.is("then of 2, 0 the 20th from 2 on: ring(3, 20, 0)", x.ring(3, 20, 0), 2);
        Due.is("ring(3, 20, -1)", x.ring(3, 20, NONE), 2);
        Due.is("the 20th of 20: ring(20, 20, 19)", x.ring(20, 20, 19), 1);
        Due.is("the 20th of 19: ring(19, 20, 0)", x.ring(19, 20, 0), 1);
    }

    @Says(promise = 30, words = "RING: LEFT (who NONE); when who goes out. NONE if one can't be")
    static void onlyWhoIsInTheRingGoesOut() {
        SleightHouse x = new SleightHouse();
        Due.is("ring(5, 2, 4)", x.ring(5, 2, 4), 4);
        Due.is("ring(5, 2, 5)", x.ring(5, 2, 5), NONE);
        Due.is("ring(5, 2, -2)", x.ring(5, 2, -2), NONE);
        Due.is("ring(5, 2, MIN)", x.ring(5, 2, MIN), NONE);
        Due.is("ring(5, 2, MAX)", x.ring(5, 2, MAX), NONE);
        Due.is("ring(1, 1, 1)", x.ring(1, 1, 1), NONE);
    }

    @Says(promise = 30, words = "LEFT: who is last (from 0); when one goes out (1 .. n)")
    static void whoIsLeftGoesOutLast() {
        SleightHouse x = new SleightHouse();
        for (int n = 1; n <= 40; n++) {
            for (int k = 1; k <= 20; k++) {
                Due.is("ring(" + n + ", " + k + ", ..)", x.ring(n, k, x.ring(n, k, NONE)), n);
                Due.is("the first out of " + n + " by " + k, x.ring(n, k, (k - 1) % n), 1);
            }
        }
    }

    // Promise 31

    @Says(promise = 31, words = "0, 1, 2 of a PERSON (0 .. 11, there or not) is told")
    static void giftsAreToldOf0To11() {
        SleightHouse x = new SleightHouse();
        int[] wrong = {-1, 12, MIN, MAX};
        for (int person : wrong) {
            Due.is("gift(" + person + ", 0)", x.gift(person, 0), false);
        }
        Due.is("gift(0, 0)", x.gift(0, 0), true);
        Due.is("gift(11, 0)", x.gift(11, 0), true);
    }

    @Says(promise = 31, words = "0 no gift, 1 gift, 2 not told; 2 at first")
    static void giftsAre0To2() {
        SleightHouse x = Scenes.family(1, "");
        int[] wrong = {-1, 3, MIN, MAX};
        x.gift(0, 1);
        for (int v : wrong) {
            Due.is("gift(0, " + v + ")", x.gift(0, v), false);
        }
        Due.is("it stays: heir(0)", x.heir(0), 12);
        Due.is("gift(0, 0)", x.gift(0, 0), true);
        Due.is("heir(0)", x.heir(0), 0);
        Due.is("gift(0, 2)", x.gift(0, 2), true);
        Due.is("heir(0)", x.heir(0), 2);
    }

    @Says(promise = 31, words = "(0 .. 11, there or not)")
    static void aGiftIsToldAheadOfThePerson() {
        SleightHouse x = Scenes.family(11, "");
        Due.is("gift(11, 0)", x.gift(11, 0), true);
        Due.is("not there yet: heir(-1)", x.heir(NONE), 177147);
        Due.is("heir(11)", x.heir(11), NONE);
        x.person(0, 0);
        Due.is("there: heir(-1)", x.heir(NONE), 177147);
        Due.is("heir(11)", x.heir(11), 0);
    }

    // Promise 32

    @Says(promise = 32, words = "NONE if there is none such, or no way (MUST)")
    static void ofNobodySuchThereIsNoMust() {
        SleightHouse x = Scenes.family(2, "");
        int[] wrong = {-2, 2, 11, 12, MIN, MAX};
        for (int person : wrong) {
            Due.is("heir(" + person + ")", x.heir(person), NONE);
        }
        Due.is("heir(1)", x.heir(1), 2);
    }

    @Says(promise = 32, words = "WAYS: in how many ways the marks of all PEOPLE (0, 1 or 2 each) can be")
    static void ofNobodyThereIsOneWay() {
        Due.is("heir(-1)", new SleightHouse().heir(NONE), 1);
    }

    @Says(promise = 32, words = "WAYS: in how many ways the marks of all PEOPLE (0, 1 or 2 each) can be")
    static void ofTwelveThereAre531441Ways() {
        Due.is("heir(-1)", Scenes.family(12, "").heir(NONE), 531441);
    }

    @Says(promise = 32, words = "NONE if there is none such, or no way (MUST)")
    static void ifThereIsNoWayThereIsNoMust() {
        SleightHouse x = Scenes.family(4, "person 0 child of 1;person 0 child of 2;");
        x.gift(0, 1);
        x.gift(1, 0);
        x.gift(2, 0);
        Due.is("no way: heir(-1)", x.heir(NONE), 0);
        for (int person = 0; person < 4; person++) {
            Due.is("heir(" + person + ")", x.heir(person), NONE);
        }
    }

    @Says(promise = 32, words = "of each of two parents a child has one mark or none (0 marks: none; 2: one; 1: either)")
    static void oneParentToldHandsOnByHisMarks() {
        SleightHouse x = Scenes.family(2, "person 0 child of 1;");
        Due.is("0: 0, 1; 1: 0, 1, 2; 2: 1, 2", x.heir(NONE), 7);
        x.gift(1, 0);
        Due.is("of one without: 0 or 1", x.heir(0), 1);
        x.gift(1, 1);
        x.gift(0, 0);
        Due.is("a child without: the parent has just one", x.heir(1), 11);
    }

    @Says(promise = 32, words = "of each of two parents a child has one mark or none (0 marks: none; 2: one; 1: either)")
    static void bothParentsToldHandOn() {
        SleightHouse x = Scenes.family(3, "person 0 child of 1;person 0 child of 2;");
        Due.is("15 of 27", x.heir(NONE), 15);
        x.gift(1, 0);
        Due.is("one at most", x.heir(0), 1);
        x.gift(2, 0);
        Due.is("none", x.heir(0), 0);
        Due.is("one way", x.heir(NONE), 1);
    }

    @Says(promise = 32, words = "of a parent who is not told either")
    static void withoutParentsAllMarksCanBe() {
        Due.is("heir(0)", Scenes.family(1, "").heir(0), 2);
        Due.is("heir(-1)", Scenes.family(1, "").heir(NONE), 3);
    }

    @Says(promise = 32, words = "of a parent who is not told either")
    static void oneParentToldTwiceIsOneParent() {
        SleightHouse x = Scenes.family(2, "person 0 child of 1;person 0 child of 1;");
        Due.is("heir(-1)", x.heir(NONE), 7);
        x.gift(1, 0);
        Due.is("heir(0)", x.heir(0), 1);
    }

    @Says(promise = 32, words = "how few and how many marks he can have (10 times the one and the other one)")
    static void mustTellsTheFewestAndTheMost() {
        SleightHouse x = Scenes.family(3, "person 0 child of 1;person 2 child of 1;");
        Due.is("none to two", x.heir(1), 2);
        x.gift(1, 1);
        Due.is("one to two", x.heir(1), 12);
        x.gift(0, 0);
        Due.is("just one", x.heir(1), 11);
        x.gift(1, 0);
        Due.is("just none", x.heir(1), 0);
        Due.is("none to one", x.heir(2), 1);
    }

    @Says(promise = 32, words = "HEIR by LINE")
    static void whoAreEachOthersChildren() {
        SleightHouse x = Scenes.family(2, "person 0 child of 1;person 1 child of 0;");
        Due.is("all but 0 with 2", x.heir(NONE), 7);
        x.gift(0, 0);
        Due.is("heir(1)", x.heir(1), 1);
    }

    @Says(promise = 32, words = "HEIR by LINE")
    static void allSixteenLinesBind() {
        StringBuilder line = new StringBuilder();
        for (int i = 0; i < 8; i++) {
            line.append("person ").append(i).append(" child of 10;person ").append(i).append(" child of 11;");
        }
        SleightHouse x = Scenes.family(12, line.toString());
        // Eight children of two, 8 and 9 free: over the marks of both the ways of one child, eight times.
        long ways = 9L * (1 + 2 * 256 + 2 + 6561 + 2 * 256 + 1);
        Due.is("heir(-1)", x.heir(NONE), ways);
        x.gift(10, 0);
        x.gift(11, 0);
        Due.is("all without but two", x.heir(NONE), 9);
        x.gift(7, 1);
        Due.is("no way", x.heir(NONE), 0);
    }

    /** Twelve, each the child of the one ahead: by the last one's marks 0, 1, 2. */
    private static int waysOfTwelveInARow() {
        int[] ways = {1, 1, 1};
        for (int i = 0; i < 11; i++) {
            ways = new int[] {ways[0] + ways[1], ways[0] + ways[1] + ways[2], ways[1] + ways[2]};
        }
        return ways[0] + ways[1] + ways[2];
    }

    @Says(promise = 32, words = "HEIR by LINE")
    static void aLongLineHandsOnOverMany() {
        StringBuilder line = new StringBuilder();
        for (int i = 0; i < 11; i++) {
            line.append("person ").append(i + 1).append(" child of ").append(i).append(";");
        }
        SleightHouse x = Scenes.family(12, line.toString());
        Due.is("heir(-1)", x.heir(NONE), waysOfTwelveInARow());
        Due.is("heir(11)", x.heir(11), 2);
    }

    @Says(promise = 32, words = "HEIR by LINE")
    static void aLineThatGoesToAndFroHandsOnOverMany() {
        int[] order = {0, 11, 1, 10, 2, 9, 3, 8, 4, 7, 5, 6};
        StringBuilder line = new StringBuilder();
        for (int i = 0; i < 11; i++) {
            line.append("person ").append(order[i + 1]).append(" child of ").append(order[i]).append(";");
        }
        SleightHouse x = Scenes.family(12, line.toString());
        Due.is("heir(-1)", x.heir(NONE), waysOfTwelveInARow());
    }

    @Says(promise = 22, words = "A change of CUPS (a NONE: none is then)")
    static void changesThatAreGoneDoNotComeBack() {
        SleightHouse x = new SleightHouse();
        x.swap(0, 1);
        x.swap(1, 2);
        x.swap(NONE, 0);
        x.swap(3, 4);
        Due.is("under(0)", x.under(0), 0);
        Due.is("LEAST", x.under(NONE), 1);
    }

    @Says(promise = 24, words = "A pick of CARDS (NONE: none is then)")
    static void picksThatAreGoneDoNotComeBack() {
        SleightHouse x = new SleightHouse();
        x.pick(0);
        x.pick(0);
        x.pick(NONE);
        x.pick(1);
        Due.is("card(3, 0)", x.card(3, 0), 0);
    }

    @Says(promise = 26, words = "A box (far NONE: none is then)")
    static void boxesThatAreGoneDoNotComeBack() {
        SleightHouse x = new SleightHouse();
        x.box(5, 5);
        x.box(6, 6);
        x.box(NONE, 0);
        x.box(4, 4);
        Due.is("boxes(0)", x.boxes(0), 1);
        Due.is("boxes(1)", x.boxes(1), 0);
    }

    @Says(promise = 28, words = "A key (a NONE: none is then)")
    static void keysThatAreGoneDoNotComeBack() {
        SleightHouse x = new SleightHouse();
        x.key(0, 1);
        x.key(1, 2);
        x.key(NONE, 0);
        x.key(3, 4);
        Due.is("opened(1)", x.opened(1), 1);
        Due.is("opened(2)", x.opened(2), 2);
        Due.is("FORCED", x.opened(NONE), 9);
    }
}
