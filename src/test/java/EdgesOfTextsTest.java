import java.io.IOException;

/** Boundary cases of promises 10 to 13: the tape, the four texts and their faults. */
public final class EdgesOfTextsTest {
    private static final int NONE = SleightHouse.NONE;
    private static final int MIN = Integer.MIN_VALUE;
    private static final int MAX = Integer.MAX_VALUE;
    private static final int LAW = 0;
    private static final int SUPPER = 1;
    private static final int CUSTOMS = 2;
    private static final int LINE = 3;

    private EdgesOfTextsTest() {
    }

    public static void main(String[] args) throws IOException, IllegalAccessException {
        Cases.run(EdgesOfTextsTest.class);
    }

    /** Three people and three things. */
    private static SleightHouse house() {
        SleightHouse x = Scenes.house();
        x.person(4, 4);
        return x;
    }

    private static void fine(int k, String text, int lines) {
        SleightHouse x = house();
        Due.is("text " + k + " of \"" + text + "\"", Due.tell(x, k, text), lines);
        Due.is("no fault of \"" + text + "\"", x.fault(0), 0);
        Due.is("no place of \"" + text + "\"", x.fault(1), NONE);
        Due.is("its lines", x.look(8 + k), lines);
    }

    private static void faulty(int k, String text, int fault, int place) {
        Due.faulty(house(), k, text, fault, place);
    }

    private static SleightHouse fed(int times) {
        SleightHouse x = house();
        for (int i = 0; i < times; i++) {
            x.feed(0x20202020, 0x20202020, 0x20202020, 0x20202020, 0x20202020);
        }
        return x;
    }

    // Promise 10

    @Says(promise = 10, words = "Twenty bytes come behind the TAPE")
    static void twentyBytesAtATime() {
        SleightHouse x = house();
        for (int i = 1; i <= 20; i++) {
            Due.is("feed " + i, x.feed(0, 0, 0, 0, 0), 20 * i);
        }
    }

    @Says(promise = 10, words = "of each number the highest first")
    static void theHighestByteComesFirst() {
        SleightHouse x = house();
        x.feed(0x66617220, 0x313b6661, 0x7220323b, 0x66617220, 0x333b2020);
        Due.is("far 1;far 2;far 3;", x.text(LAW), 3);
    }

    @Says(promise = 10, words = "of each number the highest first")
    static void bytesAbove127AreBytes() {
        SleightHouse x = house();
        x.feed(0x66617220, 0x313bff80, MIN, -1, MAX);
        Due.is("text(0)", x.text(LAW), NONE);
        Due.is("fault(0)", x.fault(0), 1);
        Due.is("fault(1)", x.fault(1), 6);
    }

    @Says(promise = 10, words = "NONE, and nothing comes, if there would be more than 400")
    static void theTapeHas400BytesAtMost() {
        SleightHouse x = fed(19);
        Due.is("just 400", x.feed(0, 0, 0, 0, 0), 400);
        Due.is("more than 400", x.feed(0, 0, 0, 0, 0), NONE);
    }

    @Says(promise = 10, words = "NONE, and nothing comes, if there would be more than 400")
    static void ofAFeedThatIsRefusedNothingComes() {
        SleightHouse x = fed(20);
        Due.is("end(381)", x.end(381), true);
        Due.is("401: feed", x.feed(0x78787878, 0, 0, 0, 0), NONE);
        Due.is("381 are there: end(382)", x.end(382), false);
        Due.is("only blanks: text(0)", x.text(LAW), 0);
    }

    @Says(promise = 10, words = "NONE, and nothing comes, if there would be more than 400")
    static void with380ThereIsRoomForTwentyMore() {
        SleightHouse x = fed(20);
        Due.is("end(380)", x.end(380), true);
        Due.is("feed", x.feed(0, 0, 0, 0, 0), 400);
    }

    @Says(promise = 10, words = "Twenty bytes come behind the TAPE")
    static void bytesComeBehindACutTape() {
        SleightHouse x = house();
        x.feed(0x66617220, 0x313b7878, 0x78787878, 0x78787878, 0x78787878);
        x.end(6);
        Due.is("feed", x.feed(0x66617220, 0x323b2020, 0x20202020, 0x20202020, 0x20202020), 26);
        Due.is("far 1;far 2;", x.text(LAW), 2);
    }

    @Says(promise = 10, words = "Twenty bytes come behind the TAPE")
    static void feedingForgetsNothing() {
        SleightHouse x = house();
        x.act(2, 0);
        x.feed(0, 0, 0, 0, 0);
        x.end(0);
        Due.is("look(12)", x.look(12), 1);
    }

    @Says(promise = 10, words = "NONE, and nothing comes, if there would be more than 400")
    static void aTextMayHave400Bytes() {
        SleightHouse x = house();
        Due.is("a sum", Due.tell(x, LAW, "far 0" + "+1".repeat(197) + ";"), 1);
        Due.is("197 held to 99", x.tells(0, 0, 0, 1), 99);
        Due.is("parts", Due.tell(x, LAW, "far 9999" + "/1".repeat(193) + "/102;"), 1);
        Due.is("9999/102", x.tells(0, 0, 0, 1), 98);
        Due.is("claims", Due.tell(x, LAW, "far 3 when 1=2" + " or 1=2".repeat(55) + ";"), 1);
        Due.is("none is so", x.tells(0, 0, 0, 1), 10);
    }

    // Promise 11

    @Says(promise = 11, words = "false, changing nothing, if it has not so many, or n is below 0")
    static void beyondItsLengthTheTapeIsNotEnded() {
        SleightHouse x = fed(1);
        Due.is("end(21)", x.end(21), false);
        Due.is("end(400)", x.end(400), false);
        Due.is("end(401)", x.end(401), false);
        Due.is("end(MAX)", x.end(MAX), false);
        Due.is("nothing is changed: end(20)", x.end(20), true);
    }

    @Says(promise = 11, words = "false, changing nothing, if it has not so many, or n is below 0")
    static void below0TheTapeIsNotEnded() {
        SleightHouse x = fed(1);
        Due.is("end(-1)", x.end(-1), false);
        Due.is("end(MIN)", x.end(MIN), false);
        Due.is("nothing is changed: end(20)", x.end(20), true);
    }

    @Says(promise = 11, words = "The TAPE has its first n bytes alone: true")
    static void atItsLengthTheTapeStaysWhole() {
        SleightHouse x = fed(1);
        Due.is("end(20)", x.end(20), true);
        Due.is("feed", x.feed(0, 0, 0, 0, 0), 40);
    }

    @Says(promise = 11, words = "The TAPE has its first n bytes alone: true")
    static void theTapeMayBeEndedAt0() {
        SleightHouse x = fed(1);
        Due.is("end(0)", x.end(0), true);
        Due.is("end(1)", x.end(1), false);
        Due.is("feed", x.feed(0, 0, 0, 0, 0), 20);
    }

    @Says(promise = 11, words = "The TAPE has its first n bytes alone: true")
    static void anEmptyTapeHas0Bytes() {
        SleightHouse x = house();
        Due.is("end(0)", x.end(0), true);
        Due.is("end(1)", x.end(1), false);
        Due.is("end(-1)", x.end(-1), false);
    }

    @Says(promise = 11, words = "The TAPE has its first n bytes alone: true")
    static void whatStoodBehindTheEndIsNotRead() {
        SleightHouse x = house();
        x.feed(0x66617274, 0x68657220, 0x313b2020, 0x20202020, 0x20202020);
        x.end(3);
        Due.is("\"far\" of \"farther 1;\": text(0)", x.text(LAW), NONE);
        Due.is("fault(1)", x.fault(1), 3);
        x.feed(0x66617220, 0x31323334, 0x353b2020, 0x20202020, 0x20202020);
        x.end(8);
        Due.is("\"far 1234\" of \"far 12345;\": text(0)", x.text(LAW), NONE);
        Due.is("fault(1)", x.fault(1), 8);
        Due.tell(x, LAW, "far 1;far 2;far 3;far 4;");
        Due.is("a shorter text behind a longer one", Due.tell(x, LAW, "far 1;"), 1);
    }

    @Says(promise = 11, words = "The TAPE has its first n bytes alone: true")
    static void theFirstBytesStay() {
        SleightHouse x = house();
        x.feed(0x66617220, 0x313b6661, 0x7220323b, 0x66617220, 0x333b2020);
        Due.is("end(12)", x.end(12), true);
        Due.is("far 1;far 2;", x.text(LAW), 2);
    }

    // Promise 12

    @Says(promise = 12, words = "NONE: no such one (fault() tells 0)")
    static void noSuchTextIsNone() {
        int[] others = {-1, 4, MIN, MAX};
        for (int k : others) {
            SleightHouse x = house();
            Due.faulty(x, LAW, "far", 1, 3);
            Due.is("text(" + k + ")", x.text(k), NONE);
            Due.is("fault(0)", x.fault(0), 0);
            Due.is("fault(1)", x.fault(1), NONE);
        }
    }

    @Says(promise = 12, words = "The TAPE, empty then, is TEXT k")
    static void theTapeIsEmptyBehindAText() {
        SleightHouse x = house();
        Due.tell(x, LAW, "far 1;");
        Due.is("end(1)", x.end(1), false);
        Due.is("feed", x.feed(0, 0, 0, 0, 0), 20);
    }

    @Says(promise = 12, words = "The TAPE, empty then, is TEXT k")
    static void theTapeIsEmptyBehindAFault() {
        SleightHouse x = house();
        Due.faulty(x, LAW, "far", 1, 3);
        Due.is("end(1)", x.end(1), false);
        Due.is("feed", x.feed(0, 0, 0, 0, 0), 20);
    }

    @Says(promise = 12, words = "The TAPE, empty then, is TEXT k")
    static void theTapeIsEmptyBehindNoSuchText() {
        SleightHouse x = fed(1);
        Due.is("text(4)", x.text(4), NONE);
        Due.is("end(1)", x.end(1), false);
    }

    @Says(promise = 12, words = "The TAPE, empty then, is TEXT k: how many lines")
    static void anEmptyTapeIsATextOfNoLines() {
        SleightHouse x = house();
        Due.tell(x, LAW, "far 7;");
        Due.tell(x, SUPPER, "at 0 person 0 puts 0 in 0;");
        Due.tell(x, CUSTOMS, "at 0 tie 0;");
        Due.tell(x, LINE, "person 0 child of 1;");
        for (int k = 0; k <= 3; k++) {
            Due.is("look(" + (8 + k) + ")", x.look(8 + k), 1);
            Due.is("text(" + k + ")", x.text(k), 0);
            Due.is("look(" + (8 + k) + ")", x.look(8 + k), 0);
        }
        Due.is("no law", x.tells(0, 0, 0, 1), 10);
    }

    @Says(promise = 12, words = "Blanks (32, 10) between.")
    static void blanksAloneAreATextOfNoLines() {
        for (int k = 0; k <= 3; k++) {
            fine(k, " \n \n", 0);
        }
    }

    @Says(promise = 12, words = "or a FAULT (it stays as it was)")
    static void behindAFaultTheTextStays() {
        SleightHouse x = house();
        Due.tell(x, LAW, "far 7;");
        Due.tell(x, LINE, "person 0 child of 1;");
        Due.faulty(x, LAW, "far 8;far 9;far", 1, 15);
        Due.faulty(x, LINE, "person 0 child of 2;person 1 child of 1;", 2, 38);
        Due.is("lines of the law", x.look(8), 1);
        Due.is("far", x.tells(0, 0, 0, 1), 7);
        Due.is("parents", x.who(0, 4), 2);
    }

    @Says(promise = 12, words = "or a FAULT (it stays as it was)")
    static void behindAFaultSupperAndCustomsStay() {
        SleightHouse x = house();
        Due.tell(x, SUPPER, "at 0 person 1 puts 0 in 5;");
        Due.tell(x, CUSTOMS, "at 0 lock 3;");
        Due.faulty(x, SUPPER, "at 0 person 1 puts 0 in 6;at", 1, 28);
        Due.faulty(x, CUSTOMS, "at 0 lock 4;at", 1, 14);
        x.hours(1);
        Due.is("of(0, 2)", x.of(0, 2), 5);
        Due.is("look(4)", x.look(4), 8);
    }

    @Says(promise = 12, words = "or a FAULT (it stays as it was)")
    static void aFaultForgetsNothing() {
        SleightHouse x = house();
        x.act(2, 0);
        Due.faulty(x, SUPPER, "at", 1, 2);
        Due.faulty(x, CUSTOMS, "at", 1, 2);
        x.text(4);
        Due.is("look(12)", x.look(12), 1);
    }

    @Says(promise = 12, words = "16 lines of each at most")
    static void sixteenLinesOfEach() {
        fine(LAW, "far 1;".repeat(16), 16);
        fine(SUPPER, "at0person0puts0in0;".repeat(16), 16);
        fine(CUSTOMS, "at 0 tie 0;".repeat(16), 16);
        SleightHouse x = Scenes.family(12, "");
        Due.is("LINE", Due.tell(x, LINE, sixteenChildren()), 16);
    }

    private static String sixteenChildren() {
        StringBuilder line = new StringBuilder();
        for (int i = 0; i < 16; i++) {
            line.append("person ").append(i / 2).append(" child of ").append(8 + i % 2).append(";");
        }
        return line.toString();
    }

    // Promise 13

    @Says(promise = 13, words = "0 the FAULT (0 without one), 1 its place (NONE)")
    static void aheadOfAnyTextThereIsNoFault() {
        SleightHouse x = new SleightHouse();
        Due.is("fault(0)", x.fault(0), 0);
        Due.is("fault(1)", x.fault(1), NONE);
    }

    @Says(promise = 13, words = "Of the latest text()")
    static void aGoodTextTakesTheFaultAway() {
        SleightHouse x = house();
        Due.faulty(x, LAW, "far", 1, 3);
        Due.tell(x, LINE, "");
        Due.is("fault(0)", x.fault(0), 0);
        Due.is("fault(1)", x.fault(1), NONE);
    }

    @Says(promise = 13, words = "Of the latest text()")
    static void feedAndEndLeaveTheFault() {
        SleightHouse x = house();
        Due.faulty(x, LAW, "far", 1, 3);
        x.feed(0, 0, 0, 0, 0);
        x.end(2);
        x.end(3);
        Due.is("fault(0)", x.fault(0), 1);
        Due.is("fault(1)", x.fault(1), 3);
    }

    @Says(promise = 13, words = "NONE for another what")
    static void ofTheFaultAnotherWhatIsNone() {
        SleightHouse x = house();
        Due.faulty(x, LAW, "far", 1, 3);
        int[] others = {-1, 2, MIN, MAX};
        for (int what : others) {
            Due.is("fault(" + what + ")", x.fault(what), NONE);
        }
    }

    // Promise 13: tokens

    @Says(promise = 13, words = "letters as many as stand together are KEYWORDS")
    static void lettersThatStandTogetherAreOneToken() {
        faulty(LAW, "farfar 1;", 1, 0);
        faulty(LAW, "fa r 1;", 1, 0);
        faulty(LAW, "far 1 whens 1=1;", 1, 6);
        faulty(LAW, "far sizes;", 1, 4);
        faulty(LAW, "far siz;", 1, 4);
        faulty(LAW, "Far 1;", 1, 0);
        faulty(LAW, "faR 1;", 1, 0);
        faulty(LAW, "farA 1;", 1, 0);
        faulty(LAW, "farZ 1;", 1, 0);
        faulty(LAW, "fara 1;", 1, 0);
        faulty(LAW, "farz 1;", 1, 0);
    }

    @Says(promise = 13, words = "letters as many as stand together are KEYWORDS")
    static void betweenLettersDigitsAndSignsNoBlankIsNeeded() {
        fine(LAW, "far1when1=1or size<2;", 1);
        fine(SUPPER, "at0person0puts0in0;", 1);
        fine(CUSTOMS, "at0tie0;at1search0 1;", 2);
        fine(LINE, "person0child of1;", 1);
    }

    @Says(promise = 13, words = "(those told here for that text)")
    static void keywordsOfAnotherTextAreNone() {
        faulty(LAW, "at 0 tie 0;", 1, 0);
        faulty(LAW, "person 0 child of 1;", 1, 0);
        faulty(SUPPER, "far 1;", 1, 0);
        faulty(SUPPER, "at 0 tie 0;", 1, 5);
        faulty(CUSTOMS, "at 0 person 0 puts 0 in 0;", 1, 5);
        faulty(CUSTOMS, "at 0 palms 0;", 1, 5);
        faulty(LINE, "at 0 tie 0;", 1, 0);
    }

    @Says(promise = 13, words = "NUMBERS of 1 to 4 digits or none")
    static void aNumberHasFourDigitsAtMost() {
        fine(LAW, "far 0;", 1);
        fine(LAW, "far 9999;", 1);
        fine(LAW, "far 0000;", 1);
        faulty(LAW, "far 10000;", 1, 4);
        faulty(LAW, "far 00000;", 1, 4);
        faulty(LAW, "far 1/00001;", 1, 6);
    }

    @Says(promise = 13, words = "digits as many as stand together NUMBERS")
    static void digitsApartAreTwoNumbers() {
        faulty(LAW, "far 1 2;", 1, 6);
        fine(SUPPER, "at 0999 person 00 puts 000 in 0011;", 1);
    }

    @Says(promise = 13, words = "Blanks (32, 10) between.")
    static void blanksMayStandBetweenAllTokens() {
        fine(LAW, "\n far\n1 +\n\n2 when ( not 1 <\n2 ) ; \n", 1);
    }

    @Says(promise = 13, words = "Blanks (32, 10) between.")
    static void otherSignsAreNoBlanks() {
        faulty(LAW, "far\t1;", 1, 3);
        faulty(LAW, "far\r1;", 1, 3);
        faulty(LAW, "far" + (char) 0 + "1;", 1, 3);
        faulty(LAW, "far" + (char) 160 + "1;", 1, 3);
        faulty(LAW, "far 1;" + (char) 255, 1, 6);
        faulty(LAW, "far 1.", 1, 5);
        faulty(LAW, "far_1;", 1, 3);
    }

    @Says(promise = 13, words = "; + - * / ( ) < = > . Blanks (32, 10) between.")
    static void signsBesideLettersAndDigitsAreNeither() {
        faulty(LAW, "far@ 1;", 1, 3);
        faulty(LAW, "far[ 1;", 1, 3);
        faulty(LAW, "far` 1;", 1, 3);
        faulty(LAW, "far{ 1;", 1, 3);
        faulty(LAW, "far 1:;", 1, 5);
        faulty(LAW, "far 1.;", 1, 5);
        faulty(LAW, "far 1,;", 1, 5);
        faulty(LAW, "far 1?;", 1, 5);
    }

    @Says(promise = 13, words = "; + - * / ( ) < = > . Blanks (32, 10) between.")
    static void eachByteAloneIsABlankOrCantStand() {
        for (int sign = 0; sign < 256; sign++) {
            for (int k = 0; k <= 3; k++) {
                if (sign == 32 || sign == 10) {
                    fine(k, "" + (char) sign, 0);
                } else {
                    faulty(k, "" + (char) sign, 1, 0);
                }
            }
        }
    }

    @Says(promise = 13, words = "; + - * / ( ) < = > . Blanks (32, 10) between.")
    static void eachByteAsANumberIsADigitOrCantStand() {
        for (int sign = 0; sign < 256; sign++) {
            if (sign >= '0' && sign <= '9') {
                fine(LAW, "far " + (char) sign + ";", 1);
            } else {
                faulty(LAW, "far " + (char) sign + ";", 1, sign == 32 || sign == 10 ? 5 : 4);
            }
        }
    }

    @Says(promise = 13, words = "; + - * / ( ) < = > . Blanks (32, 10) between.")
    static void eachByteBehindALineIsABlankOrCantStand() {
        for (int sign = 0; sign < 256; sign++) {
            if (sign == 32 || sign == 10) {
                fine(LAW, "far 1;" + (char) sign, 1);
            } else {
                faulty(LAW, "far 1;" + (char) sign, 1, 6);
            }
        }
    }

    // Promise 13: fault 1

    @Says(promise = 13, words = "1 what can't stand there (the end: the text's length)")
    static void theEndIsAtTheTextsLength() {
        faulty(LAW, "far", 1, 3);
        faulty(LAW, "far 1", 1, 5);
        faulty(LAW, "far 1   ", 1, 8);
        faulty(LAW, "far 1 \n", 1, 7);
        faulty(LAW, "far 1;far 2", 1, 11);
        faulty(SUPPER, "at", 1, 2);
        faulty(CUSTOMS, "at 0 lock 1", 1, 11);
        faulty(LINE, "person 0 child of 1", 1, 19);
    }

    @Says(promise = 13, words = "1 what can't stand there (the end: the text's length)")
    static void theEndOfATextOf400() {
        SleightHouse x = fed(19);
        x.feed(0x20202020, 0x20202020, 0x20202020, 0x20202020, 0x20666172);
        Due.is("text(0)", x.text(LAW), NONE);
        Due.is("fault(0)", x.fault(0), 1);
        Due.is("fault(1)", x.fault(1), 400);
    }

    @Says(promise = 13, words = "1 what can't stand there (the end: the text's length)")
    static void theFirstSignCanBeTheFault() {
        faulty(LAW, ";", 1, 0);
        faulty(LAW, "1;", 1, 0);
        faulty(LAW, "sleight 1;", 1, 0);
        faulty(LAW, "hour 1;", 1, 0);
        faulty(LAW, "when 1=1;", 1, 0);
        faulty(SUPPER, ";", 1, 0);
        faulty(CUSTOMS, ";", 1, 0);
        faulty(LINE, ";", 1, 0);
    }

    @Says(promise = 13, words = "0 THE LAW = {(palms | far | finds) E [when B] ;}")
    static void whatCantStandInALineOfTheLaw() {
        faulty(LAW, "far ;", 1, 4);
        faulty(LAW, "far far;", 1, 4);
        faulty(LAW, "far palms;", 1, 4);
        faulty(LAW, "far finds;", 1, 4);
        faulty(LAW, "far when 1=1;", 1, 4);
        faulty(LAW, "far or;", 1, 4);
        faulty(LAW, "far 1 far 2;", 1, 6);
        faulty(LAW, "far 1 when;", 1, 10);
        faulty(LAW, "far 1 when 1=1 when 1=1;", 1, 15);
        faulty(LAW, "far 1;;", 1, 6);
        faulty(LAW, "far 1 or 2;", 1, 6);
    }

    @Says(promise = 13, words = "C = E (< | = | >) E | not C | ( B )")
    static void whatCantStandInAClaim() {
        faulty(LAW, "far 1 when 1;", 1, 12);
        faulty(LAW, "far 1 when 1=;", 1, 13);
        faulty(LAW, "far 1 when 1=1=1;", 1, 14);
        faulty(LAW, "far 1 when =1;", 1, 11);
        faulty(LAW, "far 1 when not;", 1, 14);
        faulty(LAW, "far 1 when 1=not 1;", 1, 13);
        faulty(LAW, "far 1 when ();", 1, 12);
        faulty(LAW, "far 1 when (1=1;", 1, 15);
        faulty(LAW, "far 1 when 1=1);", 1, 14);
        faulty(LAW, "far 1 when (1)=1;", 1, 13);
        faulty(LAW, "far 1 when (1=1)=1;", 1, 16);
    }

    @Says(promise = 13, words = "B = A {or A}.  A = C {and C}")
    static void behindOrAndAndAClaimMustStand() {
        faulty(LAW, "far 1 when 1=1 or;", 1, 17);
        faulty(LAW, "far 1 when 1=1 and;", 1, 18);
        faulty(LAW, "far 1 when or 1=1;", 1, 11);
        faulty(LAW, "far 1 when 1=1 and or 1=1;", 1, 19);
        faulty(LAW, "far 1 when 1=1 or", 1, 17);
    }

    @Says(promise = 13, words = "E = T {(+ | -) T}.  T = U {* U | / NUMBER}")
    static void whatCantStandInASum() {
        faulty(LAW, "far -1;", 1, 4);
        faulty(LAW, "far +1;", 1, 4);
        faulty(LAW, "far 1+;", 1, 6);
        faulty(LAW, "far 1*;", 1, 6);
        faulty(LAW, "far 1/;", 1, 6);
        faulty(LAW, "far 1/size;", 1, 6);
        faulty(LAW, "far 1/-1;", 1, 6);
        faulty(LAW, "far (1);", 1, 4);
        faulty(LAW, "far 1 size;", 1, 6);
        faulty(LAW, "far 1+-1;", 1, 6);
    }

    @Says(promise = 13, words = "1 SUPPER = {at HOUR person PERSON puts THING in PLACE ;}")
    static void whatCantStandInALineOfSupper() {
        faulty(SUPPER, "0 person 0 puts 0 in 0;", 1, 0);
        faulty(SUPPER, "at person 0 puts 0 in 0;", 1, 3);
        faulty(SUPPER, "at 0 0 puts 0 in 0;", 1, 5);
        faulty(SUPPER, "at 0 person puts 0 in 0;", 1, 12);
        faulty(SUPPER, "at 0 person 0 0 in 0;", 1, 14);
        faulty(SUPPER, "at 0 person 0 puts in 0;", 1, 19);
        faulty(SUPPER, "at 0 person 0 puts 0 0;", 1, 21);
        faulty(SUPPER, "at 0 person 0 puts 0 in;", 1, 23);
        faulty(SUPPER, "at 0 person 0 puts 0 in 0 at", 1, 26);
        faulty(SUPPER, "at 0 person 0 puts 0 in 0;0", 1, 26);
    }

    @Says(promise = 13, words = "2 CUSTOMS = {at HOUR (tie PERSON | loose PERSON | lock PLACE | open PLACE | search PERSON PLACE) ;}")
    static void whatCantStandInALineOfCustoms() {
        faulty(CUSTOMS, "tie 0;", 1, 0);
        faulty(CUSTOMS, "at tie 0;", 1, 3);
        faulty(CUSTOMS, "at 0 0;", 1, 5);
        faulty(CUSTOMS, "at 0;", 1, 4);
        faulty(CUSTOMS, "at 0 tie;", 1, 8);
        faulty(CUSTOMS, "at 0 tie 0 0;", 1, 11);
        faulty(CUSTOMS, "at 0 loose 0 0;", 1, 13);
        faulty(CUSTOMS, "at 0 lock 0 0;", 1, 12);
        faulty(CUSTOMS, "at 0 open 0 0;", 1, 12);
        faulty(CUSTOMS, "at 0 search 0;", 1, 13);
        faulty(CUSTOMS, "at 0 search 0 0 0;", 1, 16);
    }

    @Says(promise = 13, words = "3 LINE = {person PERSON child of PERSON ;}")
    static void whatCantStandInALineOfLine() {
        faulty(LINE, "0 child of 1;", 1, 0);
        faulty(LINE, "person child of 1;", 1, 7);
        faulty(LINE, "person 0 of 1;", 1, 9);
        faulty(LINE, "person 0 child 1;", 1, 15);
        faulty(LINE, "person 0 child of;", 1, 17);
        faulty(LINE, "person 0 child of 1 2;", 1, 20);
        faulty(LINE, "person 0 child of 1;child", 1, 20);
    }

    // Promise 13: fault 2

    @Says(promise = 13, words = "2 (at the NUMBER) a part by 0")
    static void aPartBy0IsAFault() {
        faulty(LAW, "far 1/0;", 2, 6);
        faulty(LAW, "far 1 / 0000;", 2, 8);
        faulty(LAW, "far 1 when 1=4/2/0;", 2, 17);
        fine(LAW, "far 1/1;", 1);
        fine(LAW, "far 1/9999;", 1);
        fine(LAW, "far 1*0;", 1);
    }

    @Says(promise = 13, words = "(HOUR 0 .. 999.)")
    static void hour1000IsBeyondTheBounds() {
        fine(SUPPER, "at 0 person 0 puts 0 in 0;", 1);
        fine(SUPPER, "at 999 person 0 puts 0 in 0;", 1);
        faulty(SUPPER, "at 1000 person 0 puts 0 in 0;", 2, 3);
        faulty(SUPPER, "at 9999 person 0 puts 0 in 0;", 2, 3);
        fine(CUSTOMS, "at 999 tie 0;", 1);
        faulty(CUSTOMS, "at 1000 tie 0;", 2, 3);
    }

    @Says(promise = 13, words = "one beyond its bounds")
    static void place12IsBeyondTheBounds() {
        fine(SUPPER, "at 0 person 0 puts 0 in 11;", 1);
        faulty(SUPPER, "at 0 person 0 puts 0 in 12;", 2, 24);
        fine(CUSTOMS, "at 0 lock 11;at 0 open 11;at 0 search 0 11;", 3);
        faulty(CUSTOMS, "at 0 lock 12;", 2, 10);
        faulty(CUSTOMS, "at 0 open 12;", 2, 10);
        faulty(CUSTOMS, "at 0 search 0 12;", 2, 14);
        faulty(CUSTOMS, "at 0 lock 9999;", 2, 10);
    }

    @Says(promise = 13, words = "a PERSON, a THING that there is not")
    static void aPersonThatThereIsNotIsAFault() {
        fine(SUPPER, "at 0 person 2 puts 0 in 0;", 1);
        faulty(SUPPER, "at 0 person 3 puts 0 in 0;", 2, 12);
        fine(CUSTOMS, "at 0 tie 2;at 0 loose 2;at 0 search 2 0;", 3);
        faulty(CUSTOMS, "at 0 tie 3;", 2, 9);
        faulty(CUSTOMS, "at 0 loose 3;", 2, 11);
        faulty(CUSTOMS, "at 0 search 3 0;", 2, 12);
        fine(LINE, "person 2 child of 1;person 1 child of 2;", 2);
        faulty(LINE, "person 3 child of 1;", 2, 7);
        faulty(LINE, "person 1 child of 3;", 2, 18);
    }

    @Says(promise = 13, words = "a PERSON, a THING that there is not")
    static void aThingThatThereIsNotIsAFault() {
        fine(SUPPER, "at 0 person 0 puts 2 in 0;", 1);
        faulty(SUPPER, "at 0 person 0 puts 3 in 0;", 2, 19);
    }

    @Says(promise = 13, words = "a PERSON, a THING that there is not")
    static void inAnEmptyHouseEachPersonIsAFault() {
        Due.faulty(new SleightHouse(), SUPPER, "at 0 person 0 puts 0 in 0;", 2, 12);
        Due.faulty(new SleightHouse(), CUSTOMS, "at 0 tie 0;", 2, 9);
        Due.faulty(new SleightHouse(), LINE, "person 0 child of 1;", 2, 7);
        SleightHouse x = new SleightHouse();
        x.person(0, 0);
        Due.faulty(x, SUPPER, "at 0 person 0 puts 0 in 0;", 2, 19);
    }

    @Says(promise = 13, words = "the same PERSON again")
    static void nobodyIsHisOwnChild() {
        faulty(LINE, "person 0 child of 0;", 2, 18);
        faulty(LINE, "person 2 child of 0;person 2 child of 2;", 2, 38);
        faulty(LINE, "person 0 child of 00;", 2, 18);
    }

    @Says(promise = 13, words = "a child's third line (at the child; of LINE)")
    static void aChildHasTwoLinesAtMost() {
        fine(LINE, "person 0 child of 1;person 0 child of 2;", 2);
        fine(LINE, "person 0 child of 1;person 1 child of 2;person 0 child of 2;person 1 child of 0;", 4);
        faulty(LINE, "person 0 child of 1;person 0 child of 2;person 0 child of 1;", 2, 47);
        faulty(LINE, "person 0 child of 1;person 0 child of 2;person 1 child of 0;person 0", 2, 67);
    }

    @Says(promise = 13, words = "two lines for one child at most.")
    static void oneParentToldTwiceIsTwoLines() {
        fine(LINE, "person 0 child of 1;person 0 child of 1;", 2);
        faulty(LINE, "person 0 child of 1;person 0 child of 1;person 0 child of 2;", 2, 47);
    }

    // Promise 13: fault 3

    @Says(promise = 13, words = "3 (at its KEYWORD) the 17th line of a text")
    static void the17thLineOfTheLawIsAFault() {
        faulty(LAW, "far 1;".repeat(17), 3, 96);
        faulty(LAW, "far 1;".repeat(16) + " \nfinds", 3, 98);
        faulty(LAW, "far 1;".repeat(16) + "palms 99999", 3, 96);
    }

    @Says(promise = 13, words = "3 (at its KEYWORD) the 17th line of a text")
    static void the17thLineOfSupperIsAFault() {
        faulty(SUPPER, "at0person0puts0in0;".repeat(17), 3, 304);
        faulty(SUPPER, "at0person0puts0in0;".repeat(16) + " at", 3, 305);
    }

    @Says(promise = 13, words = "3 (at its KEYWORD) the 17th line of a text")
    static void the17thLineOfCustomsIsAFault() {
        faulty(CUSTOMS, "at 0 tie 0;".repeat(17), 3, 176);
    }

    @Says(promise = 13, words = "3 (at its KEYWORD) the 17th line of a text")
    static void the17thLineOfLineIsAFault() {
        String text = sixteenChildren();
        Due.faulty(Scenes.family(12, ""), LINE, text + "person 9 child of 8;", 3, text.length());
    }

    @Says(promise = 13, words = "(at it) the 9th ( or not that is open")
    static void eightBracketsMayBeOpen() {
        fine(LAW, "far 1 when ((((((((1=1))))))));", 1);
        faulty(LAW, "far 1 when (((((((((1=1)))))))));", 3, 19);
    }

    @Says(promise = 13, words = "(at it) the 9th ( or not that is open")
    static void eightNotsMayBeOpen() {
        fine(LAW, "far 1 when " + "not ".repeat(8) + "1=1;", 1);
        faulty(LAW, "far 1 when " + "not ".repeat(9) + "1=1;", 3, 43);
    }

    @Says(promise = 13, words = "(at it) the 9th ( or not that is open")
    static void bracketsAndNotsAreCountedTogether() {
        fine(LAW, "far 1 when not(not(not(not(1=1))));", 1);
        faulty(LAW, "far 1 when not(not(not(not((1=1)))));", 3, 27);
        faulty(LAW, "far 1 when not(not(not(not(not 1=1))));", 3, 27);
    }

    @Says(promise = 13, words = "(at it) the 9th ( or not that is open")
    static void whatIsClosedIsNoMoreOpen() {
        fine(LAW, "far 1 when ((((((((1=1)))))))) or ((((((((1=1))))))));", 1);
        fine(LAW, "far 1 when " + "not ".repeat(8) + "1=1 and " + "not ".repeat(8) + "1=1;", 1);
        fine(LAW, "far 1 when (((((((not 1=1 and not 1=1 or (1=1))))))));", 1);
        fine(LAW, "far 1 when " + "(1=1) and ".repeat(9) + "1=1;", 1);
        faulty(LAW, "far 1 when (((((((1=1 or (not 1=1", 3, 26);
    }

    @Says(promise = 13, words = "(at it) the 9th ( or not that is open")
    static void eightOpenTellWhatIsSo() {
        SleightHouse x = house();
        Due.tell(x, LAW, "far 5 when " + "not ".repeat(8) + "1=1;far 6;");
        Due.is("so", x.tells(0, 0, 0, 1), 5);
        Due.tell(x, LAW, "far 5 when " + "not ".repeat(7) + "1=1;far 6;");
        Due.is("not so", x.tells(0, 0, 0, 1), 6);
        Due.tell(x, LAW, "far 5 when 1=1 and(1=1 and(1=1 and(1=1 and(1=1 and(1=1 and(1=1 and(1=1 and(1=1 and 2=1+1*1))))))));");
        Due.is("so", x.tells(0, 0, 0, 1), 5);
        Due.tell(x, LAW, "far 5 when 1=2 or(1=2 or 1=1 and(1=2 or 1=1 and(1=2 or 1=1 and(1=2 or 1=1 and(1=2 or 1=1 and(1=2 or "
            + "1=1 and(1=2 or 1=1 and(1=2 or 1=1 and 4=2+2*1))))))));far 6;");
        Due.is("so, with all that waits", x.tells(0, 0, 0, 1), 5);
    }

    // Promise 13: which fault

    @Says(promise = 13, words = "FAULTS, the first by its place")
    static void theFirstFaultIsTold() {
        faulty(LAW, "far 1/0 when 99999;", 2, 6);
        faulty(LAW, "far 99999/0;", 1, 4);
        faulty(SUPPER, "at 1000 person 9 puts 9 in 99;", 2, 3);
        faulty(SUPPER, "at 0 person 9 puts x in 99;", 2, 12);
        faulty(CUSTOMS, "at 1000 fly 0;", 2, 3);
        faulty(LINE, "person 9 child 9;", 2, 7);
        faulty(LINE, "person 0 child of 0", 2, 18);
    }

    @Says(promise = 13, words = "at one place the least")
    static void whatCantStandIsNotThe17thLine() {
        faulty(LAW, "far 1;".repeat(16) + "when", 1, 96);
        faulty(LAW, "far 1;".repeat(16) + ";", 1, 96);
        faulty(LAW, "far 1;".repeat(16) + "x", 1, 96);
        faulty(SUPPER, "at0person0puts0in0;".repeat(16) + "0", 1, 304);
    }

    @Says(promise = 13, words = "at one place the least")
    static void whatCantStandIsNotThe9thThatIsOpen() {
        faulty(LAW, "far 1 when ((((((((1=(", 1, 21);
        faulty(LAW, "far 1 when ((((((((1=not", 1, 21);
        faulty(LAW, "far 1 when ((((((((1=1(", 1, 22);
    }

    @Says(promise = 13, words = "at one place the least")
    static void aNumberOfFiveDigitsCantStandWhateverItsBounds() {
        faulty(SUPPER, "at 01000 person 0 puts 0 in 0;", 1, 3);
        faulty(SUPPER, "at 0 person 99999 puts 0 in 0;", 1, 12);
        faulty(LINE, "person 0 child of 1;person 0 child of 2;person 00000", 1, 47);
    }
}
