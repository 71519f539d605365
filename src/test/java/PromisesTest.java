/** Promise by promise: ordinary inputs, the edges that the document names, and wrong inputs. */
public final class PromisesTest {
    private static final int MIN = Integer.MIN_VALUE;
    private static final int MAX = Integer.MAX_VALUE;

    private PromisesTest() {
    }

    public static void main(String[] args) {
        newObject();
        stateThingPerson();
        set();
        puts();
        palming();
        search();
        act();
        hours();
        falling();
        tape();
        text();
        askedOfAll();
        tells();
        book();
        goes();
        whereAndBrings();
        cups();
        cards();
        boxes();
        keys();
        ring();
        heir();
        weighings();
        rings();
        hats();
        mirrors();
        clues();
        shares();
        game();
        undo();
        image();
        look();
        Due.finish();
    }

    private static SleightHouse house() {
        return Scenes.house();
    }

    // Promise 1
    private static void newObject() {
        SleightHouse x = new SleightHouse();
        Due.is("NONE", SleightHouse.NONE, -1);
        for (int what = 0; what <= 12; what++) {
            Due.is("look of a new one " + what, x.look(what), 0);
        }
        for (int place = 0; place < 12; place++) {
            Due.is("room at first", x.place(place, 0), 9);
            for (int what = 1; what <= 4; what++) {
                Due.is("place at first", x.place(place, what), 0);
            }
        }
        Due.is("fault at first", x.fault(0), 0);
        Due.is("its place at first", x.fault(1), -1);
        Due.is("undo at first", x.undo(), false);
        Due.is("image at first", x.image(false), false);
    }

    // Promises 2, 3, 4
    private static void stateThingPerson() {
        SleightHouse x = new SleightHouse();
        Due.is("state", x.state(77), 0);
        Due.is("state again", x.state(MIN), 77);
        Due.is("state as it is", x.look(7), MIN);
        int[][] wrong = {{0, 0, 0}, {10, 0, 0}, {1, -1, 0}, {1, 1000, 0}, {1, 0, -1}, {1, 0, 12}, {MIN, MAX, MIN}};
        for (int[] w : wrong) {
            Due.is("a thing that can't be", x.thing(w[0], w[1], w[2]), -1);
        }
        Due.is("no thing", x.look(0), 0);
        x.act(2, 11);
        for (int i = 0; i < 16; i++) {
            Due.is("a thing, whatever the room", x.thing(9, 999, 11), i);
        }
        Due.is("the 17th", x.thing(1, 0, 0), -1);
        Due.is("things", x.look(0), 16);
        Due.is("full", x.place(11, 3), 144);
        Due.is("what is in it", x.place(11, 4), 65535);
        int[][] nobody = {{-1, 0}, {10, 0}, {0, -1}, {0, 10}, {MAX, MIN}};
        for (int[] w : nobody) {
            Due.is("a person who can't be", x.person(w[0], w[1]), -1);
        }
        for (int i = 0; i < 12; i++) {
            Due.is("a person", x.person(i % 10, 9 - i % 10), i);
        }
        Due.is("the 13th", x.person(1, 1), -1);
        Due.is("sleight", x.who(11, 0), 1);
        Due.is("wits", x.who(11, 1), 8);
        Due.is("tied", x.who(11, 2), 0);
        Due.is("palmed", x.who(11, 3), 0);
    }

    // Promise 5
    private static void set() {
        SleightHouse x = house();
        int[][] most = {{0, 99}, {1, 9}, {0, 999}, {0, 1}, {0, 9}, {0, 9}};
        int[] counts = {12, 3, 3, 3, 2, 2};
        for (int what = 0; what < 6; what++) {
            int last = counts[what] - 1;
            Due.is("the least", x.set(what, last, most[what][0]), true);
            Due.is("is told", told(x, what, last), most[what][0]);
            Due.is("the most", x.set(what, last, most[what][1]), true);
            Due.is("is told", told(x, what, last), most[what][1]);
            Due.is("below", x.set(what, last, most[what][0] - 1), false);
            Due.is("above", x.set(what, last, most[what][1] + 1), false);
            Due.is("far above", x.set(what, last, MAX), false);
            Due.is("none such", x.set(what, counts[what], most[what][0]), false);
            Due.is("none such", x.set(what, -1, most[what][0]), false);
            Due.is("stays", told(x, what, last), most[what][1]);
        }
        Due.is("another what", x.set(6, 0, 1), false);
        Due.is("another what", x.set(-1, 0, 1), false);
        x = house();
        x.act(0, 0);
        Due.is("a wrong set", x.set(4, 2, 1), false);
        Due.is("forgets nothing", x.look(12), 1);
        Due.is("a right set", x.set(4, 0, 9), true);
        Due.is("forgets", x.look(12), 0);
    }

    private static int told(SleightHouse x, int what, int who) {
        switch (what) {
            case 0:
                return x.place(who, 0);
            case 1:
                return x.of(who, 0);
            case 2:
                return x.of(who, 1);
            case 3:
                return x.of(who, 4);
            case 4:
                return x.who(who, 0);
            default:
                return x.who(who, 1);
        }
    }

    // Promise 6
    private static void puts() {
        SleightHouse x = house();
        x.set(3, 0, 1);
        Due.is("puts", x.puts(1, 0, 4), 4);
        Due.is("in", x.of(0, 2), 4);
        Due.is("moved", x.of(0, 3), 1);
        Due.is("known", x.of(0, 4), 0);
        Due.is("no draw where palms is 0", x.look(7), 0);
        Due.is("to where it is", x.puts(1, 0, 4), 4);
        Due.is("moved again", x.of(0, 3), 2);
        Due.is("9 of 9", x.puts(1, 2, 5), 5);
        Due.is("9 where it is, with no room beside it", x.puts(1, 2, 5), 5);
        Due.is("no room", x.puts(1, 0, 5), -1);
        Due.is("stays", x.of(0, 2), 4);
        Due.is("not moved", x.of(0, 3), 2);
        Due.is("not in the book", x.look(6), 4);
        Due.is("nothing to undo of it", x.look(12), 4);
        int[][] none = {{-1, 0, 0}, {2, 0, 0}, {1, -1, 0}, {1, 3, 0}, {1, 0, -1}, {1, 0, 12}, {MAX, MIN, MAX}};
        for (int[] w : none) {
            Due.is("none such", x.puts(w[0], w[1], w[2]), -1);
        }
        x.act(2, 4);
        Due.is("out of a locked one", x.puts(1, 0, 6), -1);
        Due.is("into a locked one", x.puts(1, 1, 4), -1);
        x.act(3, 4);
        x.act(0, 1);
        Due.is("tied", x.puts(1, 0, 6), -1);
        x.act(1, 1);
        Due.is("loose again", x.puts(1, 0, 6), 6);
        Due.is("a place too full for what lies in it", x.set(0, 6, 2), true);
        Due.is("does not take it again", x.puts(1, 0, 6), -1);
    }

    // Promise 6, what is palmed
    private static void palming() {
        SleightHouse x = house();
        Due.is("law", Due.tell(x, 0, "palms 1000; far 99;"), 2);
        Due.is("99 farther from 4 is 7", x.puts(1, 0, 4), 7);
        Due.is("a draw", x.look(7), 1013904223);
        Due.is("moved twice", x.of(0, 3), 2);
        Due.is("lost", x.of(0, 4), 1);
        Due.is("palmed", x.who(1, 3), 1);
        Due.tell(x, 0, "palms 1000; far 0;");
        Due.is("itself is the last of all", x.puts(1, 0, 4), 5);
        Due.tell(x, 0, "palms 1000; far 24;");
        Due.is("twice around is the same", x.puts(1, 0, 11), 0);
        Due.tell(x, 0, "palms 1000; far 1;");
        x.act(2, 5);
        Due.is("locked or not", x.puts(1, 0, 4), 5);
        x.act(3, 5);
        x.set(0, 5, 2);
        x.set(0, 6, 2);
        Due.is("on to one with room", x.puts(1, 0, 4), 7);
        for (int place = 0; place < 12; place++) {
            x.set(0, place, place == 4 ? 3 : 2);
        }
        Due.is("no room but in itself", x.puts(1, 0, 4), 4);
        Due.is("palmed all the same", x.of(0, 4), 1);
        Due.is("moved all the same", x.of(0, 3), 12);
        Due.is("counted all the same", x.who(1, 3), 6);
        x = house();
        Due.tell(x, 0, "palms full*100+moved*10+lost*500+hour; far 2;");
        x.set(3, 0, 1);
        x.state(0);
        // 3 in place 3, moved once, no more lost: 310; the draw is 1013904223 >>> 8 = 3960563, so 563.
        Due.is("the law is asked behind the putting", x.puts(1, 0, 3), 3);
        Due.is("asked again: 620 of 5 in place 1 and 3 more", x.tells(1, 0, 3, 0), 310);
        x.state(0);
        // In place 1 lies one of size 5: full is 8, 820 is above 563.
        Due.is("palmed there", x.puts(1, 0, 1), 3);
    }

    // Promise 7
    private static void search() {
        SleightHouse x = house();
        x.set(3, 0, 1);
        Due.is("finds 500 + 50 * 9, the draw 563", x.search(1, 0), 1);
        Due.is("found", x.look(2), 1);
        Due.is("known", x.look(3), 0);
        Due.is("nothing lost: no draw", x.search(1, 0), 0);
        Due.is("one draw in all", x.look(7), 1013904223);
        Due.is("searched", x.place(0, 2), 2);
        x.set(3, 0, 1);
        Due.tell(x, 0, "finds 0;");
        x.state(0);
        Due.is("never found", x.search(1, 0), 0);
        Due.is("but drawn for", x.look(7), 1013904223);
        x.act(2, 0);
        Due.tell(x, 0, "finds 1000;");
        Due.is("locked", x.search(1, 0), 0);
        Due.is("searched all the same", x.place(0, 2), 4);
        Due.is("no draw", x.look(7), 1013904223);
        x.act(3, 0);
        x.set(3, 1, 1);
        Due.is("just there", x.search(1, 0), 1);
        Due.is("the other one stays lost", x.look(3), 2);
        x.act(0, 1);
        Due.is("tied", x.search(1, 1), -1);
        Due.is("none such", x.search(2, 0), -1);
        Due.is("none such", x.search(-1, 0), -1);
        Due.is("none such", x.search(0, 12), -1);
        Due.is("none such", x.search(0, -1), -1);
        Due.is("not searched", x.place(1, 2), 0);
        x = new SleightHouse();
        x.person(0, 0);
        x.thing(1, 0, 3);
        x.thing(2, 0, 3);
        x.set(3, 0, 1);
        x.set(3, 1, 1);
        Due.tell(x, 0, "finds 600 when size = 1; finds 1000;");
        Due.is("thing by thing", x.search(0, 3), 2);
        Due.is("found of both", x.look(2), 2);
    }

    // Promise 8
    private static void act() {
        SleightHouse x = house();
        Due.is("tie", x.act(0, 1), true);
        Due.is("tied", x.who(1, 2), 1);
        Due.is("it is so", x.act(0, 1), false);
        Due.is("loose", x.act(1, 1), true);
        Due.is("it is so", x.act(1, 1), false);
        Due.is("lock", x.act(2, 11), true);
        Due.is("locked", x.look(4), 2048);
        Due.is("locked", x.place(11, 1), 1);
        Due.is("it is so", x.act(2, 11), false);
        Due.is("open", x.act(3, 11), true);
        Due.is("it is so", x.act(3, 11), false);
        Due.is("what can be undone", x.look(12), 4);
        int[][] none = {{0, 2}, {0, -1}, {1, 2}, {2, 12}, {2, -1}, {3, 12}, {4, 0}, {-1, 0}, {MAX, MIN}};
        for (int[] w : none) {
            Due.is("none such", x.act(w[0], w[1]), false);
        }
        Due.is("nothing more to undo", x.look(12), 4);
    }

    // Promise 9
    private static void hours() {
        SleightHouse x = house();
        int[] wrong = {0, 61, -1, MIN, MAX};
        for (int n : wrong) {
            Due.is("hours that can't be", x.hours(n), -1);
        }
        Due.is("no hour", x.look(5), 0);
        Due.tell(x, 0, "palms 1000 when sleight = 9; palms 0; far 1; finds 1000;");
        Due.is("supper", Due.tell(x, 1, "at 1 person 0 puts 0 in 6; at 1 person 1 puts 1 in 8; at 2 person 0 puts 1 in 3;"), 3);
        Due.is("customs", Due.tell(x, 2, "at 2 search 1 7; at 3 lock 7; at 3 tie 1; at 3 search 1 7; at 4 loose 1;"), 5);
        Due.is("hour 0: nothing", x.hours(1), 0);
        Due.is("hour 1: one of two is palmed", x.hours(1), 1);
        Due.is("to the next one", x.of(0, 2), 7);
        Due.is("just put", x.of(1, 2), 8);
        Due.is("hours 2, 3: one more", x.hours(2), 1);
        Due.is("found at 2", x.look(2), 1);
        Due.is("searched once: tied at 3", x.place(7, 2), 1);
        Due.is("locked", x.look(4), 128);
        Due.is("tied", x.who(1, 2), 1);
        x.hours(1);
        Due.is("loose", x.who(1, 2), 0);
        Due.is("hour", x.look(5), 5);
        Due.is("customs come ahead of supper", customsFirst(), 0);
        x = new SleightHouse();
        for (int i = 0; i < 166; i++) {
            x.hours(60);
        }
        Due.is("9960", x.look(5), 9960);
        Due.is("above 9999", x.hours(40), -1);
        Due.is("nothing is done", x.look(5), 9960);
        Due.is("9999", x.hours(39), 0);
        Due.is("9999", x.look(5), 9999);
        Due.is("no more", x.hours(1), -1);
    }

    private static int customsFirst() {
        SleightHouse x = house();
        Due.tell(x, 1, "at 0 person 1 puts 0 in 6;");
        Due.tell(x, 2, "at 0 lock 6;");
        x.hours(1);
        return x.of(0, 2);
    }

    // Promise 9, what falls out
    private static void falling() {
        SleightHouse x = new SleightHouse();
        for (int i = 0; i < 4; i++) {
            x.thing(3, 0, 10);
        }
        x.thing(9, 0, 11);
        x.act(2, 11);
        Due.is("an hour", x.hours(1), 0);
        Due.is("the greatest number falls from 10, and on from 11", x.place(10, 4), 7);
        Due.is("out of 11 the greatest first", x.place(11, 4), 8);
        Due.is("behind 11 comes 0", x.place(0, 4), 16);
        Due.is("lost", x.look(3), 24);
        Due.is("not moved", x.of(3, 3), 0);
        Due.is("the book", x.look(6), 2);
        Due.is("fell", x.book(0, 1), 4);
        Due.is("which", x.book(0, 2), 3);
        Due.is("where it is then", x.book(0, 3), 11);
        Due.is("behind 11", x.book(1, 3), 0);
        x.set(0, 0, 8);
        x.set(0, 1, 0);
        x.set(0, 2, 0);
        x.hours(1);
        Due.is("on and on in one hour", x.of(4, 2), 3);
    }

    // Promises 10, 11
    private static void tape() {
        SleightHouse x = new SleightHouse();
        for (int i = 1; i <= 20; i++) {
            Due.is("feed", x.feed(0x20202020, 0x20202020, 0x20202020, 0x20202020, 0x20202020), 20 * i);
        }
        Due.is("more than 400", x.feed(0, 0, 0, 0, 0), -1);
        Due.is("end beyond", x.end(401), false);
        Due.is("end below", x.end(-1), false);
        Due.is("end far", x.end(MAX), false);
        Due.is("end", x.end(400), true);
        Due.is("end", x.end(381), true);
        Due.is("still too many", x.feed(0, 0, 0, 0, 0), -1);
        Due.is("end", x.end(380), true);
        Due.is("just 400", x.feed(0, 0, 0, 0, 0), 400);
        Due.is("end", x.end(0), true);
        Due.is("an empty text", x.text(0), 0);
        Due.is("of each number the highest first", Due.tell(x, 0, "palms 1;far 1;"), 2);
        Due.is("blanks alone", Due.tell(x, 0, " \n  "), 0);
    }

    // Promises 12, 13
    private static void text() {
        SleightHouse x = house();
        Due.is("a law", Due.tell(x, 0, "far 7;"), 1);
        Due.is("no fault", x.fault(0), 0);
        Due.is("no place", x.fault(1), -1);
        Due.faulty(x, 0, "far 8; far", 1, 10);
        Due.is("another what", x.fault(2), -1);
        Due.is("another what", x.fault(-1), -1);
        Due.is("it stays as it was", x.tells(0, 0, 0, 1), 7);
        Due.is("its lines too", x.look(8), 1);
        Due.is("the tape is empty", x.end(1), false);
        Due.is("no such text", x.text(4), -1);
        Due.is("tells 0", x.fault(0), 0);
        Due.is("tells NONE", x.fault(1), -1);
        Due.is("no such text", x.text(-1), -1);
        x.act(2, 0);
        Due.tell(x, 0, "far 3;");
        Due.tell(x, 3, "person 0 child of 1;");
        Due.is("law and line forget nothing", x.look(12), 1);
        Due.faulty(x, 1, "at 0", 1, 4);
        Due.is("a fault forgets nothing", x.look(12), 1);
        Due.tell(x, 1, "at 0 person 0 puts 0 in 0;");
        Due.is("supper forgets", x.look(12), 0);
        x.act(3, 0);
        Due.tell(x, 2, "");
        Due.is("customs forget", x.look(12), 0);
    }

    // Promises 14, 15, 16
    private static void askedOfAll() {
        SleightHouse x = house();
        int[] wrong = {-1, 12, 16, MIN, MAX};
        for (int w : wrong) {
            for (int what = 0; what < 5; what++) {
                Due.is("no such place", x.place(w, what), -1);
                Due.is("no such thing", x.of(w, what), -1);
                Due.is("no such person", x.who(w, what), -1);
            }
            Due.is("another what", x.place(0, w), -1);
            Due.is("another what", x.of(0, w), -1);
            Due.is("another what", x.who(0, w), -1);
        }
        Due.is("another what", x.place(0, 5), -1);
        Due.is("another what", x.of(0, 5), -1);
        Due.is("another what", x.who(0, 5), -1);
        Due.is("no such thing yet", x.of(3, 0), -1);
        Due.is("nobody yet", x.who(2, 0), -1);
        Due.is("full", x.place(2, 3), 9);
        Due.is("its things", x.place(2, 4), 4);
        Due.is("size", x.of(2, 0), 9);
        Due.is("worth", x.of(2, 1), 999);
        Due.is("in", x.of(2, 2), 2);
        x.person(1, 1);
        Due.tell(x, 3, "person 0 child of 1; person 0 child of 2;");
        Due.is("parents", x.who(0, 4), 6);
        Due.is("no parents", x.who(1, 4), 0);
    }

    // Promise 17
    private static void tells() {
        SleightHouse x = house();
        Due.is("palms", x.tells(0, 0, 0, 0), 660);
        Due.is("far", x.tells(0, 0, 0, 1), 10);
        Due.is("finds", x.tells(0, 0, 0, 2), 600);
        Due.is("held to 0", x.tells(1, 2, 0, 0), 0);
        Due.is("held to 1000", x.tells(1, 2, 0, 2), 950);
        int[][] none = {{2, 0, 0, 0}, {-1, 0, 0, 0}, {0, 3, 0, 0}, {0, -1, 0, 0}, {0, 0, 12, 0}, {0, 0, -1, 0},
            {0, 0, 0, 3}, {0, 0, 0, -1}};
        for (int[] w : none) {
            Due.is("none such", x.tells(w[0], w[1], w[2], w[3]), -1);
        }
        Due.tell(x, 0, "palms 9999; far 100; finds 0-1;");
        Due.is("held to 1000", x.tells(0, 0, 0, 0), 1000);
        Due.is("held to 99", x.tells(0, 0, 0, 1), 99);
        Due.is("held to 0", x.tells(0, 0, 0, 2), 0);
        Due.is("no draw", x.look(7), 0);
    }

    // Promise 18
    private static void book() {
        SleightHouse x = house();
        Due.tell(x, 0, "palms 1000 when sleight = 9; palms 0; far 1; finds 1000;");
        x.hours(3);
        x.puts(0, 0, 5);
        x.search(1, 6);
        int[][] lines = {{3, 0, 0, 5}, {3, 1, 0, 0}, {3, 2, 6, 1}, {3, 3, 0, 1}};
        Due.is("lines", x.look(6), lines.length);
        for (int i = 0; i < lines.length; i++) {
            for (int what = 0; what < 4; what++) {
                Due.is("book " + i + " " + what, x.book(i, what), lines[i][what]);
            }
            Due.is("another what", x.book(i, 4), -1);
            Due.is("another what", x.book(i, -1), -1);
        }
        Due.is("no such line", x.book(4, 0), -1);
        Due.is("no such line", x.book(-1, 0), -1);
        Due.is("no such line", x.book(MAX, 0), -1);
        for (int i = 4; i < 150; i++) {
            x.search(1, 0);
        }
        Due.is("150", x.look(6), 150);
        Due.is("the last", x.book(149, 1), 2);
        Due.is("searched on", x.search(1, 1), 0);
        Due.is("no more", x.look(6), 150);
        Due.is("still counted", x.place(1, 2), 1);
        Due.is("no such line", x.book(150, 0), -1);
        for (int i = 0; i < 3; i++) {
            x.undo();
        }
        Due.is("undone", x.look(6), 148);
        Due.is("gone", x.book(148, 0), -1);
        Due.is("goes on", x.search(0, 9), 0);
        Due.is("there", x.book(148, 2), 9);
    }

    // Promise 19
    private static void goes() {
        SleightHouse x = house();
        Due.tell(x, 0, "palms 500 when sleight = 9; palms 499; far 1; finds 500 when size = 3; finds 499;");
        Due.tell(x, 1, "at 0 person 0 puts 0 in 6; at 0 person 1 puts 1 in 8; at 1 person 0 puts 1 in 3;");
        Due.tell(x, 2, "at 1 search 1 7; at 2 search 1 4; at 59 search 0 0;");
        int[][] due = {{1, 0, 1, 1, 0}, {2, 1, 1, 2, 1}, {3, 1, 1, 2, 2}, {60, 1, 1, 2, 3}};
        for (int[] d : due) {
            for (int what = 0; what < 4; what++) {
                Due.is("goes " + d[0] + " " + what, x.goes(d[0], what), what == 1 && d[0] == 1 ? 1 : d[what + 1]);
            }
            Due.is("another what", x.goes(d[0], 4), -1);
            Due.is("another what", x.goes(d[0], -1), -1);
        }
        Due.is("wrong", x.goes(0, 0), -1);
        Due.is("wrong", x.goes(61, 0), -1);
        Due.is("nothing stays", x.look(5), 0);
        Due.is("nothing stays", x.look(6), 0);
        Due.is("nothing stays", x.look(7), 0);
        Due.is("nothing stays", x.of(0, 2), 0);
        Due.is("nothing stays", x.who(0, 3), 0);
        Due.is("nothing stays", x.look(12), 0);
    }

    // Promises 20, 21
    private static void whereAndBrings() {
        SleightHouse x = house();
        Due.tell(x, 0, "palms 500 when sleight = 9; palms 499; far 2; finds 500 when size = 3; finds 499;");
        Due.is("palmed in thought", x.where(0, 0, 4), 6);
        Due.is("not palmed", x.where(1, 0, 4), 4);
        Due.is("no room", x.where(0, 2, 1), -1);
        Due.is("nothing stays", x.of(0, 2), 0);
        Due.is("nothing stays", x.of(0, 3), 0);
        int[][] none = {{2, 0, 0}, {-1, 0, 0}, {0, 3, 0}, {0, -1, 0}, {0, 0, 12}, {0, 0, -1}};
        for (int[] w : none) {
            Due.is("none such", x.where(w[0], w[1], w[2]), -1);
        }
        x.set(3, 0, 1);
        x.set(3, 1, 1);
        Due.is("found in thought", x.brings(0, 0), 1);
        Due.is("not found", x.brings(0, 1), 0);
        Due.is("nothing stays", x.look(3), 3);
        Due.is("nothing stays", x.place(0, 2), 0);
        x.act(2, 0);
        Due.is("locked: nothing found", x.brings(0, 0), 0);
        Due.is("locked", x.where(0, 0, 4), -1);
        Due.is("locked", x.where(0, 1, 0), -1);
        x.act(0, 0);
        Due.is("tied", x.brings(0, 1), -1);
        Due.is("tied", x.where(0, 1, 3), -1);
        Due.is("none such", x.brings(2, 0), -1);
        Due.is("none such", x.brings(1, 12), -1);
        Due.is("none such", x.brings(1, -1), -1);
    }

    // Promises 22, 23
    private static void cups() {
        SleightHouse x = new SleightHouse();
        int[][] wrong = {{0, 0}, {-2, 0}, {10, 0}, {0, 10}, {0, -1}, {MIN, MAX}};
        for (int[] w : wrong) {
            Due.is("a change that can't be", x.swap(w[0], w[1]), -1);
        }
        for (int i = 0; i < 9; i++) {
            Due.is("swap", x.swap(i, i + 1), i + 1);
        }
        Due.is("0 goes along", x.under(0), 9);
        Due.is("the others go back", x.under(9), 8);
        Due.is("least", x.under(-1), 9);
        Due.is("odd", x.under(-2), 0);
        Due.is("swap back", x.swap(9, 8), 10);
        Due.is("least", x.under(-1), 8);
        Due.is("even", x.under(-2), 1);
        for (int i = 11; i <= 16; i++) {
            Due.is("swap", x.swap(0, 1), i);
        }
        Due.is("the 17th", x.swap(0, 1), -1);
        Due.is("wrong", x.under(10), -1);
        Due.is("wrong", x.under(-3), -1);
        Due.is("none is then", x.swap(-1, 99), 0);
        Due.is("as it was", x.under(0), 0);
        Due.is("least", x.under(-1), 0);
    }

    // Promises 24, 25
    private static void cards() {
        SleightHouse x = new SleightHouse();
        Due.is("wrong", x.pick(3), -1);
        Due.is("wrong", x.pick(-2), -1);
        Due.is("without picks", x.card(27, 26), 26);
        int[] nines = {3, 0, 6, 4, 1, 7, 5, 2, 8};
        Due.is("pick 0", x.pick(0), 1);
        for (int i = 0; i < 9; i++) {
            Due.is("gathered 1, 0, 2", x.card(9, i), nines[i]);
        }
        x.pick(-1);
        x.pick(2);
        int[] last = {0, 6, 3, 1, 7, 4, 2, 8, 5};
        for (int i = 0; i < 9; i++) {
            Due.is("gathered 0, 2, 1", x.card(9, i), last[i]);
        }
        Due.is("2", x.pick(1), 2);
        Due.is("3", x.pick(1), 3);
        Due.is("4", x.pick(1), 4);
        Due.is("the 5th", x.pick(1), -1);
        int[] wrong = {0, 2, 4, 31, 33, -3, MIN};
        for (int n : wrong) {
            Due.is("wrong n", x.card(n, 0), -1);
            Due.is("wrong n", x.card(n, -1), -1);
        }
        Due.is("wrong c", x.card(9, 9), -1);
        Due.is("wrong c", x.card(9, -2), -1);
        Due.is("9 cards twice", x.card(9, -1), 2);
        Due.is("27 cards thrice", x.card(27, -1), 3);
        Due.is("none is then", x.pick(-1), 0);
    }

    // Promises 26, 27
    private static void boxes() {
        SleightHouse x = new SleightHouse();
        int[][] wrong = {{0, 1}, {1, 0}, {31, 1}, {1, 31}, {-2, 1}, {1, -1}};
        for (int[] w : wrong) {
            Due.is("a box that can't be", x.box(w[0], w[1]), -1);
        }
        Due.is("none", x.boxes(0), 0);
        Due.is("none", x.boxes(1), -1);
        Due.is("another what", x.boxes(2), -1);
        Due.is("another what", x.boxes(-1), -1);
        x.box(5, 10);
        Due.is("one", x.boxes(0), 1);
        Due.is("it", x.boxes(1), 0);
        x.box(9, 4);
        Due.is("turned", x.boxes(0), 2);
        Due.is("outermost", x.boxes(1), 0);
        x.box(5, 30);
        Due.is("one side alike", x.boxes(0), 2);
        Due.is("the least", x.boxes(1), 0);
        x.box(30, 30);
        Due.is("three", x.boxes(0), 3);
        Due.is("the outermost", x.boxes(1), 3);
        for (int i = 5; i <= 8; i++) {
            Due.is("box", x.box(1, 1), i);
        }
        Due.is("the 9th", x.box(1, 1), -1);
        Due.is("four", x.boxes(0), 4);
        Due.is("none is then", x.box(-1, 77), 0);
        Due.is("none", x.boxes(0), 0);
    }

    // Promises 28, 29
    private static void keys() {
        SleightHouse x = new SleightHouse();
        int[][] wrong = {{-2, 0}, {10, 0}, {0, 10}, {0, -1}};
        for (int[] w : wrong) {
            Due.is("a key that can't be", x.key(w[0], w[1]), -1);
        }
        for (int i = 0; i < 9; i++) {
            Due.is("key", x.key(i + 1, i), i + 1);
        }
        Due.is("from the last all", x.opened(512), 1023);
        Due.is("from the first none", x.opened(1), 1);
        Due.is("from none none", x.opened(0), 0);
        Due.is("forced", x.opened(-1), 1);
        Due.is("its own", x.key(9, 9), 10);
        Due.is("forced", x.opened(-1), 1);
        x.key(0, 9);
        Due.is("around", x.opened(1), 1023);
        Due.is("forced one of them", x.opened(-1), 1);
        Due.is("12", x.key(0, 1), 12);
        Due.is("the 13th", x.key(0, 1), -1);
        Due.is("wrong", x.opened(1024), -1);
        Due.is("wrong", x.opened(-2), -1);
        Due.is("none is then", x.key(-1, -5), 0);
        Due.is("all forced", x.opened(-1), 10);
    }

    // Promise 30
    private static void ring() {
        SleightHouse x = new SleightHouse();
        Due.is("left of 40 by 3", x.ring(40, 3, -1), 27);
        Due.is("left by 1", x.ring(40, 1, -1), 39);
        Due.is("the first goes first", x.ring(40, 1, 0), 1);
        Due.is("k above n", x.ring(3, 20, 1), 1);
        Due.is("the only one", x.ring(1, 20, 0), 1);
        Due.is("the last one", x.ring(40, 3, 27), 40);
        int[][] wrong = {{0, 1, -1}, {41, 1, -1}, {5, 0, -1}, {5, 21, -1}, {5, 2, 5}, {5, 2, -2}, {MAX, MIN, 0}};
        for (int[] w : wrong) {
            Due.is("wrong", x.ring(w[0], w[1], w[2]), -1);
        }
    }

    // Promises 31, 32
    private static void heir() {
        SleightHouse x = new SleightHouse();
        Due.is("nobody: one way", x.heir(-1), 1);
        Due.is("nobody", x.heir(0), -1);
        Due.is("told of who is not there", x.gift(11, 0), true);
        Due.is("nobody yet: one way", x.heir(-1), 1);
        Due.is("wrong", x.gift(12, 0), false);
        Due.is("wrong", x.gift(-1, 0), false);
        Due.is("wrong", x.gift(0, 3), false);
        Due.is("wrong", x.gift(0, -1), false);
        for (int i = 0; i < 12; i++) {
            x.person(0, 0);
        }
        Due.is("the last has none", x.heir(-1), 177147);
        Due.is("must have none", x.heir(11), 0);
        Due.is("free", x.heir(3), 2);
        Due.is("not told", x.gift(11, 2), true);
        Due.is("all free", x.heir(-1), 531441);
        Due.is("none such", x.heir(12), -1);
        Due.is("none such", x.heir(-2), -1);
        Due.tell(x, 3, "person 0 child of 1;person 0 child of 2;");
        Due.is("two parents: 15 of 27", x.heir(-1), 15 * 19683);
        x.gift(1, 0);
        x.gift(2, 0);
        Due.is("of two without none", x.heir(0), 0);
        x.gift(0, 1);
        Due.is("no way", x.heir(-1), 0);
        Due.is("no way", x.heir(0), -1);
        Due.is("no way for others either", x.heir(5), -1);
        x.gift(2, 1);
        Due.is("from one parent alone", x.heir(0), 11);
        Due.is("the parent has one or two", x.heir(2), 12);
        Due.tell(x, 3, "person 0 child of 1;person 1 child of 0;");
        for (int i = 0; i < 12; i++) {
            x.gift(i, i < 2 ? 2 : 0);
        }
        Due.is("each the child of the other: not 0 and 2", x.heir(-1), 7);
        oneParentToldTwice(x);
    }

    private static void oneParentToldTwice(SleightHouse x) {
        Due.tell(x, 3, "person 0 child of 1;person 0 child of 1;");
        Due.is("both lines are told", x.look(11), 2);
        Due.is("one parent", x.who(0, 4), 2);
        Due.is("the other parent hands on either", x.heir(-1), 7);
        x.gift(1, 0);
        Due.is("one mark at most, from the other", x.heir(0), 1);
        x.gift(1, 1);
        Due.is("a gift", x.heir(-1), 5);
        x.gift(0, 0);
        Due.is("of two marks one is handed on", x.heir(1), 11);
        Due.tell(x, 3, "person 0 child of 1;person 2 child of 1;person 0 child of 1;person 2 child of 0;");
        x.gift(0, 1);
        x.gift(1, 0);
        x.gift(2, 2);
        Due.is("no mark of the one told twice, one of the other", x.heir(0), 11);
        Due.is("and hands it on or not", x.heir(2), 1);
    }

    // Promise 33
    private static void weighings() {
        SleightHouse x = new SleightHouse();
        int[][] lighter = {{2, 1}, {3, 1}, {4, 2}, {9, 2}, {10, 3}, {27, 3}, {28, 4}, {243, 5}, {244, 6}, {729, 6}, {730, 7}, {1000, 7}};
        for (int[] l : lighter) {
            Due.is("lighter of " + l[0], x.weighings(l[0], 0), l[1]);
        }
        int[][] either = {{3, 2}, {4, 2}, {5, 3}, {13, 3}, {14, 4}, {40, 4}, {41, 5}, {121, 5}, {122, 6}, {364, 6}, {365, 7}, {1000, 7}};
        for (int[] e : either) {
            Due.is("either of " + e[0], x.weighings(e[0], 1), e[1]);
        }
        int[][] wrong = {{1, 0}, {1001, 0}, {2, 1}, {1001, 1}, {5, 2}, {5, -1}, {MIN, 0}, {MAX, 1}};
        for (int[] w : wrong) {
            Due.is("wrong", x.weighings(w[0], w[1]), -1);
        }
    }

    // Promise 34
    private static void rings() {
        SleightHouse x = new SleightHouse();
        int[] fewest = {1, 2, 5, 10, 21, 42, 85};
        for (int n = 1; n <= 7; n++) {
            Due.is("fewest of " + n, x.rings(n, -1), fewest[n - 1]);
            Due.is("all on", x.rings(n, 0), (1 << n) - 1);
            Due.is("all off", x.rings(n, fewest[n - 1]), 0);
            Due.is("the last is off last", x.rings(n, fewest[n - 1] - 1), 1);
            Due.is("fewer are needed", x.rings(n, fewest[n - 1] + 1), -1);
        }
        Due.is("of 20", x.rings(20, -1), 699050);
        Due.is("of 20", x.rings(20, 1000000), -1);
        Due.is("of 20", x.rings(20, 699050), 0);
        int[] four = {15, 13, 12, 4, 5, 7, 6, 2, 3, 1, 0};
        for (int m = 0; m < four.length; m++) {
            Due.is("of 4 behind " + m, x.rings(4, m), four[m]);
        }
        int[][] wrong = {{0, -1}, {21, -1}, {3, -2}, {3, 1000001}, {MIN, 0}, {3, MAX}};
        for (int[] w : wrong) {
            Due.is("wrong", x.rings(w[0], w[1]), -1);
        }
    }

    // Promise 35
    private static void hats() {
        SleightHouse x = new SleightHouse();
        int[] none = {0, 1, 2, 9, 44, 265, 1854, 14833, 133496, 1334961, 14684570, 176214841};
        for (int n = 1; n <= 12; n++) {
            Due.is("none of " + n, x.hats(n, 0), none[n - 1]);
            Due.is("all of " + n, x.hats(n, n), 1);
            Due.is("all but one of " + n, x.hats(n, n - 1), n == 1 ? 0 : 0);
        }
        Due.is("two of four", x.hats(4, 2), 6);
        Due.is("one of twelve", x.hats(12, 1), 176214840);
        int[][] wrong = {{0, 0}, {13, 0}, {3, 4}, {3, -1}, {MIN, MIN}, {MAX, MAX}};
        for (int[] w : wrong) {
            Due.is("wrong", x.hats(w[0], w[1]), -1);
        }
    }

    // Promises 36, 37
    private static void mirrors() {
        SleightHouse x = new SleightHouse();
        for (int edge = 0; edge < 24; edge++) {
            Due.is("straight through", x.glance(edge, 0), (edge + 12) % 24);
            Due.is("no mirror", x.glance(edge, 1), 0);
        }
        int[][] wrong = {{-1, 0}, {36, 0}, {0, -1}, {0, 3}};
        for (int[] w : wrong) {
            Due.is("wrong", x.mirror(w[0], w[1]), false);
        }
        Due.is("/ at row 2, column 3", x.mirror(15, 1), true);
        int[][] slash = {{3, 20}, {20, 3}, {8, 15}, {15, 8}};
        for (int[] s : slash) {
            Due.is("by /", x.glance(s[0], 0), s[1]);
            Due.is("one", x.glance(s[0], 1), 1);
        }
        Due.is("\\ at row 2, column 3", x.mirror(15, 2), true);
        int[][] back = {{3, 8}, {8, 3}, {20, 15}, {15, 20}};
        for (int[] s : back) {
            Due.is("by \\", x.glance(s[0], 0), s[1]);
        }
        x.mirror(15, 0);
        Due.is("taken away", x.glance(3, 0), 15);
        // From the right by row 1, up, left, down and right again: it meets the first one on both its sides.
        x.mirror(1, 2);
        x.mirror(7, 2);
        x.mirror(6, 2);
        x.mirror(0, 1);
        Due.is("met twice", x.glance(7, 1), 5);
        Due.is("comes out", x.glance(7, 0), 13);
        Due.is("wrong", x.glance(24, 0), -1);
        Due.is("wrong", x.glance(-1, 0), -1);
        Due.is("wrong", x.glance(0, 2), -1);
        Due.is("wrong", x.glance(0, -1), -1);
    }

    // Promises 38, 39
    private static void clues() {
        SleightHouse x = new SleightHouse();
        int[][] wrong = {{-2, 0}, {8, 0}, {0, 8}, {0, -1}};
        for (int[] w : wrong) {
            Due.is("wrong", x.clue(w[0], w[1], true), -1);
        }
        Due.is("all ways", x.fits(-1), 40320);
        for (int i = 0; i < 7; i++) {
            Due.is("not sure", x.fits(7), -1);
            Due.is("clue", x.clue(i, (i + 3) % 8, true), i + 1);
            Due.is("sure", x.fits(i), (i + 3) % 8);
        }
        Due.is("one way", x.fits(-1), 1);
        Due.is("what is left", x.fits(7), 2);
        Due.is("not there", x.clue(7, 2, false), 8);
        Due.is("no way", x.fits(-1), 0);
        Due.is("no way", x.fits(0), -1);
        Due.is("9", x.clue(0, 0, false), 9);
        Due.is("10", x.clue(0, 0, false), 10);
        Due.is("the 11th", x.clue(0, 0, false), -1);
        Due.is("wrong", x.fits(8), -1);
        Due.is("wrong", x.fits(-2), -1);
        Due.is("none is then", x.clue(-1, 9, false), 0);
        Due.is("all ways", x.fits(-1), 40320);
        x.clue(3, 3, false);
        Due.is("not in one", x.fits(-1), 35280);
    }

    // Promises 40, 41
    private static void shares() {
        SleightHouse x = new SleightHouse();
        int[] wrong = {0, 31, -2, MIN, MAX};
        for (int w : wrong) {
            Due.is("wrong", x.share(w), -1);
        }
        Due.is("none told", x.gets(100, 0), -1);
        Due.is("1", x.share(2), 1);
        Due.is("2", x.share(3), 2);
        Due.is("3", x.share(2), 3);
        // 7 parts of 100: 28 4/7, 42 6/7, 28 4/7: two more, the second and the first.
        Due.is("first", x.gets(100, 0), 29);
        Due.is("second", x.gets(100, 1), 43);
        Due.is("third", x.gets(100, 2), 28);
        Due.is("of nothing", x.gets(0, 1), 0);
        Due.is("even", x.gets(9996, 2), 2856);
        Due.is("of 9999: 2856 6/7", x.gets(9999, 2), 2857);
        Due.is("wrong", x.gets(10000, 0), -1);
        Due.is("wrong", x.gets(-1, 0), -1);
        Due.is("wrong", x.gets(1, 3), -1);
        Due.is("wrong", x.gets(1, -1), -1);
        x.share(30);
        x.share(30);
        Due.is("6", x.share(1), 6);
        Due.is("the 7th", x.share(1), -1);
        Due.is("none is then", x.share(-1), 0);
        Due.is("none told", x.gets(100, 0), -1);
    }

    // Promises 42, 43
    private static void game() {
        SleightHouse x = new SleightHouse();
        Due.is("wrong", x.row(31), -1);
        Due.is("wrong", x.row(-2), -1);
        Due.is("no row", x.game(0), -1);
        Due.is("no row", x.game(1), -1);
        x.row(0);
        Due.is("nothing to take", x.game(0), -1);
        x.row(1);
        Due.is("the last cup", x.game(0), 1);
        Due.is("one", x.game(1), 1);
        x.row(1);
        Due.is("two alike", x.game(0), -1);
        x.row(2);
        Due.is("half of 2 is 1: lost", x.game(1), -1);
        Due.is("5", x.row(30), 5);
        Due.is("the 6th", x.row(1), -1);
        Due.is("another what", x.game(2), -1);
        Due.is("another what", x.game(-1), -1);
        Due.is("none is then", x.row(-1), 0);
        x.row(3);
        Due.is("half of 3 is 2, upwards", x.game(1), 1);
        x.row(-1);
        x.row(4);
        x.row(4);
        x.row(5);
        // The rows are worth 1, 1 and 3: 4 down to 3 (worth 2) wins, and so would 5 down to 2 (worth 0).
        Due.is("of several the first", x.game(0), 0);
        Due.is("down to 3", x.game(1), 1);
    }

    // Promise 44
    private static void undo() {
        SleightHouse x = house();
        Due.is("nothing", x.undo(), false);
        Due.tell(x, 0, "palms 1000; far 1; finds 1000;");
        Due.tell(x, 2, "at 0 lock 3; at 1 tie 1;");
        x.hours(1);
        x.puts(0, 0, 5);
        x.search(1, 6);
        x.act(0, 0);
        x.act(2, 8);
        x.hours(2);
        Due.is("six are kept", x.look(12), 6);
        Due.is("hour", x.look(5), 3);
        Due.is("tied", x.who(1, 2), 1);
        x.undo();
        x.undo();
        Due.is("both hours back", x.look(5), 1);
        Due.is("loose", x.who(1, 2), 0);
        Due.is("the locks", x.look(4), 8 + 256);
        x.undo();
        Due.is("the lock back", x.look(4), 8);
        x.undo();
        Due.is("the tie back", x.who(0, 2), 0);
        Due.is("state", x.look(7), 1196435762);
        x.undo();
        Due.is("found back", x.look(2), 0);
        Due.is("searched back", x.place(6, 2), 0);
        Due.is("lost again", x.look(3), 1);
        Due.is("state back", x.look(7), 1013904223);
        Due.is("book back", x.look(6), 2);
        Due.is("law stays", x.look(8), 3);
        x.undo();
        Due.is("put back", x.of(0, 2), 0);
        Due.is("moved back", x.of(0, 3), 0);
        Due.is("palmed back", x.who(0, 3), 0);
        Due.is("state back", x.look(7), 0);
        Due.is("no more", x.undo(), false);
        Due.is("the first hour stays", x.look(5), 1);
        whatForgets();
    }

    private static void whatForgets() {
        SleightHouse x = house();
        x.act(2, 0);
        x.swap(0, 1);
        x.pick(0);
        x.box(1, 1);
        x.key(0, 1);
        x.gift(0, 1);
        x.mirror(0, 1);
        x.clue(0, 0, true);
        x.share(1);
        x.row(1);
        x.feed(0, 0, 0, 0, 0);
        x.end(0);
        x.image(true);
        x.thing(0, 0, 0);
        x.person(10, 0);
        Due.is("none of these forgets", x.look(12), 1);
        x.thing(1, 1, 1);
        Due.is("a thing does", x.look(12), 0);
        x.act(2, 1);
        x.person(1, 1);
        Due.is("a person does", x.look(12), 0);
        x.act(2, 2);
        x.state(0);
        Due.is("state does", x.look(12), 0);
        x.act(2, 3);
        x.image(false);
        Due.is("going back to the image does", x.look(12), 0);
        Due.is("as it was", x.look(4), 1);
    }

    // Promise 45
    private static void image() {
        SleightHouse x = house();
        Due.is("none yet", x.image(false), false);
        x.swap(0, 1);
        x.pick(0);
        x.box(2, 2);
        x.key(0, 1);
        x.gift(0, 1);
        x.mirror(0, 2);
        x.clue(0, 3, true);
        x.share(5);
        x.row(7);
        Due.tell(x, 0, "palms 1000; far 3;");
        Due.tell(x, 1, "at 5 person 0 puts 0 in 0;");
        Due.tell(x, 2, "at 5 tie 0; at 6 loose 0;");
        Due.tell(x, 3, "person 0 child of 1;");
        x.puts(0, 0, 5);
        Due.is("taken", x.image(true), true);
        Due.is("forgets nothing", x.look(12), 1);
        x.undo();
        x.search(1, 1);
        x.search(1, 2);
        for (int i = 0; i < 2; i++) {
            spoil(x);
            Due.is("gone back", x.image(false), true);
            isAsTaken(x);
        }
        Due.feed(x, "far");
        x.image(false);
        Due.is("the tape stays", x.end(3), true);
        x.text(0);
        x.image(false);
        Due.is("fault stays", x.fault(1), 3);
        spoil(x);
        Due.is("taken anew", x.image(true), true);
        x.thing(1, 1, 1);
        x.image(false);
        Due.is("the new one", x.look(0), 4);
    }

    private static void spoil(SleightHouse x) {
        x.swap(-1, 0);
        x.pick(-1);
        x.box(-1, 0);
        x.key(-1, 0);
        x.gift(0, 0);
        x.mirror(0, 1);
        x.clue(-1, 0, true);
        x.share(-1);
        x.row(-1);
        x.thing(1, 1, 1);
        x.person(1, 1);
        x.state(5);
        x.set(0, 0, 1);
        x.set(1, 0, 9);
        x.set(4, 0, 1);
        for (int k = 0; k < 4; k++) {
            x.text(k);
        }
        x.act(2, 7);
        x.act(0, 1);
        x.hours(3);
    }

    private static void isAsTaken(SleightHouse x) {
        int[] looks = {3, 2, 0, 1, 0, 0, 2, 1013904223, 2, 1, 2, 1, 0};
        for (int what = 0; what < looks.length; what++) {
            Due.is("look " + what, x.look(what), looks[what]);
        }
        Due.is("the book", x.book(0, 1), 0);
        Due.is("the book", x.book(1, 1), 1);
        Due.is("in", x.of(0, 2), 8);
        Due.is("size", x.of(0, 0), 3);
        Due.is("room", x.place(0, 0), 9);
        Due.is("sleight", x.who(0, 0), 9);
        Due.is("palmed", x.who(0, 3), 1);
        Due.is("cups", x.under(0), 1);
        Due.is("cards", x.card(3, 0), 1);
        Due.is("boxes", x.boxes(0), 1);
        Due.is("keys", x.opened(1), 3);
        Due.is("heir", x.heir(0), 12);
        Due.is("glance", x.glance(0, 0), 6);
        Due.is("clues", x.fits(0), 3);
        Due.is("will", x.gets(9, 0), 9);
        Due.is("game", x.game(0), 0);
        Due.is("law", x.tells(0, 0, 0, 1), 3);
        Due.is("line", x.who(0, 4), 2);
    }

    // Promise 46
    private static void look() {
        SleightHouse x = house();
        x.set(3, 2, 1);
        x.act(2, 11);
        x.state(-5);
        x.hours(1);
        Due.tell(x, 0, "far 1;far 2;far 3;");
        int[] looks = {3, 2, 0, 4, 2048, 1, 0, -5, 3, 0, 0, 0, 1};
        for (int what = 0; what < looks.length; what++) {
            Due.is("look " + what, x.look(what), looks[what]);
        }
        Due.is("another what", x.look(13), -1);
        Due.is("another what", x.look(-1), -1);
        Due.is("another what", x.look(MIN), -1);
    }
}
