/** What the tests share: counting wrong answers, and telling a text through the tape. */
final class Due {
    private static int wrong = 0;
    private static int asked = 0;
    private static String test = "";

    private Due() {
    }

    /** From here on that test runs: its name stands ahead of what is wrong. */
    static void begin(String name) {
        test = name + ": ";
    }

    static int asked() {
        return asked;
    }

    static void is(String call, long got, long want) {
        asked++;
        if (got != want) {
            wrong++;
            if (wrong <= 40) {
                System.out.println(test + call + " answered " + got + ", due is " + want);
            }
        }
    }

    static void is(String call, boolean got, boolean want) {
        is(call, got ? 1 : 0, want ? 1 : 0);
    }

    static void finish() {
        System.out.println(wrong == 0 ? asked + " answers are as due" : wrong + " answers are not as due");
        if (wrong != 0) {
            System.exit(1);
        }
    }

    /** Puts just these signs on the tape, which must be empty. */
    static boolean feed(SleightHouse x, String text) {
        for (int i = 0; i < text.length(); i += 20) {
            int[] words = new int[5];
            for (int j = 0; j < 20; j++) {
                int sign = i + j < text.length() ? text.charAt(i + j) & 255 : 32;
                words[j / 4] |= sign << (24 - 8 * (j % 4));
            }
            if (x.feed(words[0], words[1], words[2], words[3], words[4]) == SleightHouse.NONE) {
                return false;
            }
        }
        return x.end(text.length());
    }

    static int tell(SleightHouse x, int k, String text) {
        is("feed of " + text, feed(x, text), true);
        return x.text(k);
    }

    /** A text that has a fault: what fault() tells behind it. */
    static void faulty(SleightHouse x, int k, String text, int fault, int place) {
        is("text " + k + " of \"" + text + "\"", tell(x, k, text), SleightHouse.NONE);
        is("its fault: \"" + text + "\"", x.fault(0), fault);
        is("its place: \"" + text + "\"", x.fault(1), place);
    }
}
