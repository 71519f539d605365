/** Houses that many tests begin with. */
final class Scenes {
    private Scenes() {
    }

    /** Things of size 3, 5, 9 in places 0, 1, 2; person 0 is deft, person 1 palms nothing; no law. */
    static SleightHouse house() {
        SleightHouse x = new SleightHouse();
        x.thing(3, 100, 0);
        x.thing(5, 0, 1);
        x.thing(9, 999, 2);
        x.person(9, 2);
        x.person(0, 9);
        return x;
    }

    static SleightHouse houseWithLaw(String law) {
        SleightHouse x = house();
        Due.is("the law is told", Due.tell(x, 0, law) > 0, true);
        return x;
    }

    /** So many people, and the text LINE told of them. */
    static SleightHouse family(int people, String line) {
        SleightHouse x = new SleightHouse();
        for (int i = 0; i < people; i++) {
            x.person(0, 0);
        }
        Due.is("LINE is told", Due.tell(x, 3, line) >= 0, true);
        return x;
    }

    static int next(int state) {
        return (int) (state * 1664525L + 1013904223L);
    }

    static int draw(int state, int m) {
        return (int) (((next(state) & 0xffffffffL) >> 8) % m);
    }

    /** A STATE behind which the next DRAW of 1000 is that one. */
    static int stateAheadOf(int draw) {
        int state = 0;
        while (draw(state, 1000) != draw) {
            state++;
        }
        return state;
    }

    /** Hours in calls of 60 at most. */
    static void waitHours(SleightHouse x, int hours) {
        for (int left = hours; left > 0; left -= 60) {
            x.hours(Math.min(left, 60));
        }
    }
}
