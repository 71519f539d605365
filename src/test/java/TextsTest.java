/** The four texts: what they may be, their faults, and where these are. */
public final class TextsTest {
    private TextsTest() {
    }

    public static void main(String[] args) {
        tokens();
        lawFaults();
        lawValues();
        supperFaults();
        customFaults();
        lineFaults();
        manyLines();
        Due.finish();
    }

    private static SleightHouse house() {
        SleightHouse x = new SleightHouse();
        x.thing(3, 100, 0);
        x.thing(5, 7, 1);
        x.person(5, 2);
        x.person(0, 9);
        x.person(4, 4);
        return x;
    }

    private static void tokens() {
        SleightHouse x = house();
        Due.is("without blanks", Due.tell(x, 1, "at0person0puts1in2;at9person1puts0in11;"), 2);
        Due.is("new lines", Due.tell(x, 0, "\npalms\n1\n;\n"), 1);
        Due.is("nothing told: nothing", x.fault(0), 0);
        Due.is("zeros ahead", Due.tell(x, 1, "at 0007 person 00 puts 0001 in 0011;"), 1);
        Due.faulty(x, 0, "palmsfar 1;", 1, 0);
        Due.faulty(x, 0, "palms 12345;", 1, 6);
        Due.faulty(x, 0, "palms 00001;", 1, 6);
        Due.faulty(x, 0, "palms\t1;", 1, 5);
        Due.faulty(x, 0, "Palms 1;", 1, 0);
        Due.faulty(x, 0, "palmsX 1;", 1, 0);
        Due.faulty(x, 0, "palms 1" + (char) 233 + ";", 1, 7);
        Due.faulty(x, 0, "palms 1,", 1, 7);
        Due.faulty(x, 0, "palms 1" + (char) 0 + ";", 1, 7);
        Due.faulty(x, 0, "  palms 1   ", 1, 12);
        Due.faulty(x, 0, "tie 1;", 1, 0);
        Due.faulty(x, 3, "palms 1;", 1, 0);
        Due.faulty(x, 2, "at 1 puts 1;", 1, 5);
    }

    private static void lawFaults() {
        SleightHouse x = house();
        Due.faulty(x, 0, "palms", 1, 5);
        Due.faulty(x, 0, "palms 1 2;", 1, 8);
        Due.faulty(x, 0, "palms -1;", 1, 6);
        Due.faulty(x, 0, "palms (1);", 1, 6);
        Due.faulty(x, 0, "palms 1 +;", 1, 9);
        Due.faulty(x, 0, "palms 1 */ 2;", 1, 9);
        Due.faulty(x, 0, "palms 1 / size;", 1, 10);
        Due.faulty(x, 0, "palms 1 / 0;", 2, 10);
        Due.faulty(x, 0, "palms 1 / 0000 +", 2, 10);
        Due.faulty(x, 0, "palms 1 / 00000;", 1, 10);
        Due.faulty(x, 0, "palms 1 when;", 1, 12);
        Due.faulty(x, 0, "palms 1 when 1;", 1, 14);
        Due.faulty(x, 0, "palms 1 when 1 = 1 = 1;", 1, 19);
        Due.faulty(x, 0, "palms 1 when (1 = 1;", 1, 19);
        Due.faulty(x, 0, "palms 1 when 1 = 1);", 1, 18);
        Due.faulty(x, 0, "palms 1 when 1 = 1 or;", 1, 21);
        Due.faulty(x, 0, "palms 1 when 1 = 1 and or 1 = 1;", 1, 23);
        Due.faulty(x, 0, "palms 1 when not;", 1, 16);
        Due.faulty(x, 0, "palms 1 when (1 + 1) = 2;", 1, 19);
        Due.faulty(x, 0, "palms 1 when 1 = 1 when 1 = 1;", 1, 19);
        Due.faulty(x, 0, ";", 1, 0);
        Due.faulty(x, 0, "palms 1;;", 1, 8);
        Due.faulty(x, 0, "palms far;", 1, 6);
        Due.faulty(x, 0, "palms 1 / 0 when 99999;", 2, 10);
        Due.is("eight open", Due.tell(x, 0, "far 1 when not(not(not(not(1=1))));"), 1);
        Due.is("eight brackets, twice", Due.tell(x, 0, "far 1 when ((((((((1=1)))))))) or ((((((((2=1))))))));"), 1);
        Due.is("nots end with what they are of", Due.tell(x, 0,
            "far 1 when not not not not not not not not 1=1 and not not not not not not not not 1=1;"), 1);
        Due.faulty(x, 0, "far 1 when not(not(not(not((1=1)))));", 3, 27);
        Due.faulty(x, 0, "far 1 when ((((((1=1) or (not (1=1", 1, 34);
        Due.faulty(x, 0, "far 1 when (((((((1=1 or (not (1=1", 3, 26);
        Due.faulty(x, 0, "far 1 when (((((((((", 3, 19);
    }

    private static void law(String law, int what, int due) {
        SleightHouse x = house();
        x.hours(7);
        x.act(2, 1);
        x.set(3, 1, 1);
        Due.is("law " + law, Due.tell(x, 0, law) > 0, true);
        Due.is(law, x.tells(0, 1, 1, what), due);
    }

    private static void lawValues() {
        law("palms sleight;", 0, 5);
        law("palms wits;", 0, 2);
        law("palms size;", 0, 5);
        law("palms worth;", 0, 7);
        law("palms place;", 0, 1);
        law("palms full;", 0, 5);
        law("palms lock;", 0, 1);
        law("palms moved;", 0, 0);
        law("palms lost;", 0, 1);
        law("palms palmed;", 0, 0);
        law("palms hour;", 0, 7);
        law("palms 2+3*4;", 0, 14);
        law("palms 20-3-4;", 0, 13);
        law("palms 100-7*2/3*10;", 0, 60);
        law("palms 17/2/2;", 0, 4);
        law("palms 5+0-7/2;", 0, 2);
        law("palms 3*0-7+100;", 0, 93);
        law("far 9999*9999*9999*9999;", 1, 99);
        law("palms 9999*9999*43;", 0, 1000);
        law("palms 9999*9999*22;", 0, 0);
        law("palms 0-1+1001;", 0, 1000);
        law("finds 1 when 1=2; finds 2 when 2=2; finds 3;", 2, 2);
        law("finds 1 when 1=2;", 2, 600);
        law("palms 1; far 2 when 1 > 1;", 1, 6);
        law("far 1 when 1=1 or 1=1 and 1=2; far 2;", 1, 1);
        law("far 1 when (1=1 or 1=1) and 1=2; far 2;", 1, 2);
        law("far 1 when not 1=2 and 1=2; far 2;", 1, 2);
        law("far 1 when not (1=2 and 1=2); far 2;", 1, 1);
        law("far 1 when not not 1=1; far 2;", 1, 1);
        law("far 1 when 1<1; far 2 when 1>1; far 3 when 1=1;", 1, 3);
        law("far 1 when 0-1<0; far 2;", 1, 1);
        law("far 1 when hour > 6 and place < 2 or lost = 0; far 2;", 1, 1);
        law("far 7-9/2+0;", 1, 3);
        law("far 50 when 0-7/2+4=1; far 2;", 1, 50);
        partsTowardsZero();
    }

    /** Only a product that wraps can be below 0 where it is parted. */
    private static void partsTowardsZero() {
        SleightHouse x = house();
        int product = 9999 * 9999;
        product = product * 30;
        Due.is("it wraps", product < 0, true);
        int part = product / 9;
        Due.is("not even", product % 9 != 0, true);
        String exact = exact(part);
        Due.is("law", Due.tell(x, 0, "far 1 when 9999*9999*30/9=" + exact + "; far 2;"), 2);
        Due.is("towards 0", x.tells(0, 0, 0, 1), 1);
    }

    /** A number below 0 by numbers of four digits. */
    private static String exact(int v) {
        int u = -v;
        return "0-" + u / 100000000 + "*1000*1000*100-" + u / 10000 % 10000 + "*1000*10-" + u % 10000;
    }

    private static void supperFaults() {
        SleightHouse x = house();
        Due.faulty(x, 1, "at 1000 person 0 puts 0 in 0;", 2, 3);
        Due.is("999", Due.tell(x, 1, "at 999 person 2 puts 1 in 11;"), 1);
        Due.faulty(x, 1, "at 0 person 3 puts 0 in 0;", 2, 12);
        Due.faulty(x, 1, "at 0 person 0 puts 2 in 0;", 2, 19);
        Due.faulty(x, 1, "at 0 person 0 puts 0 in 12;", 2, 24);
        Due.faulty(x, 1, "at 0 person 0 puts 0 in 0", 1, 25);
        Due.faulty(x, 1, "at 0 person 0 puts 0 0;", 1, 21);
        Due.faulty(x, 1, "at person 0 puts 0 in 0;", 1, 3);
        Due.faulty(x, 1, "at 0 0 puts 0 in 0;", 1, 5);
        Due.faulty(x, 1, "at 0 person 3 puts 99999 in 0;", 2, 12);
        Due.faulty(x, 1, "person 0 child of 1;", 1, 0);
        Due.is("stays", x.look(9), 1);
    }

    private static void customFaults() {
        SleightHouse x = house();
        Due.is("all of them", Due.tell(x, 2, "at 0 tie 0;at 0 loose 2;at 999 lock 11;at 1 open 0;at 2 search 1 11;"), 5);
        Due.faulty(x, 2, "at 1000 tie 0;", 2, 3);
        Due.faulty(x, 2, "at 0 tie 3;", 2, 9);
        Due.faulty(x, 2, "at 0 loose 3;", 2, 11);
        Due.faulty(x, 2, "at 0 lock 12;", 2, 10);
        Due.faulty(x, 2, "at 0 open 12;", 2, 10);
        Due.faulty(x, 2, "at 0 search 3 0;", 2, 12);
        Due.faulty(x, 2, "at 0 search 0 12;", 2, 14);
        Due.faulty(x, 2, "at 0 search 0;", 1, 13);
        Due.faulty(x, 2, "at 0 tie 0 0;", 1, 11);
        Due.faulty(x, 2, "at 0 person 0;", 1, 5);
        Due.faulty(x, 2, "at 0 tie;", 1, 8);
        Due.faulty(x, 2, "at 0 tie 0", 1, 10);
        Due.is("stays", x.look(10), 5);
    }

    private static void lineFaults() {
        SleightHouse x = house();
        Due.is("two parents", Due.tell(x, 3, "person 0 child of 1;person 0 child of 2;person 2 child of 0;"), 3);
        Due.faulty(x, 3, "person 0 child of 0;", 2, 18);
        Due.faulty(x, 3, "person 3 child of 0;", 2, 7);
        Due.faulty(x, 3, "person 0 child of 3;", 2, 18);
        Due.faulty(x, 3, "person 0 of 1;", 1, 9);
        Due.faulty(x, 3, "person 0 child 1;", 1, 15);
        Due.faulty(x, 3, "person 0 child of 1", 1, 19);
        Due.faulty(x, 3, "person 0 child of 1;person 0 child of 2;person 0 child of 1;", 2, 47);
        Due.is("the same parent on two lines", Due.tell(x, 3, "person 0 child of 1;person 0 child of 1;"), 2);
        Due.is("is one of the set", x.who(0, 4), 2);
        x.gift(2, 0);
        Due.is("hands on once: 2 + 3 + 2", x.heir(-1), 7);
        Due.faulty(x, 3, "person 0 child of 1;person 0 child of 1;person 0 child of 2;", 2, 47);
    }

    private static void manyLines() {
        SleightHouse x = house();
        String sixteen = "far 1;".repeat(16);
        Due.is("sixteen", Due.tell(x, 0, sixteen), 16);
        Due.faulty(x, 0, sixteen + " far 1;", 3, 97);
        Due.faulty(x, 0, sixteen + " far", 3, 97);
        Due.faulty(x, 0, sixteen + " when", 1, 97);
        Due.faulty(x, 0, sixteen + "; far 1;", 1, 96);
        Due.is("sixteen", Due.tell(x, 2, "at 0 tie 0;".repeat(16)), 16);
        Due.faulty(x, 2, "at 0 tie 0;".repeat(17), 3, 176);
        for (int i = 3; i < 12; i++) {
            x.person(0, 0);
        }
        StringBuilder line = new StringBuilder();
        for (int i = 0; i < 16; i++) {
            line.append("person ").append(i / 2).append(" child of ").append(8 + i % 2).append(";");
        }
        Due.is("sixteen", Due.tell(x, 3, line.toString()), 16);
        Due.faulty(x, 3, line + "person 9 child of 8;", 3, line.length());
        StringBuilder supper = new StringBuilder();
        for (int i = 0; i < 16; i++) {
            supper.append("at").append(i).append("person0puts0in1;");
        }
        Due.is("sixteen", Due.tell(x, 1, supper.toString()), 16);
        Due.faulty(x, 1, supper + "at 1", 3, supper.length());
        String longest = "far 1" + "+1".repeat(197) + ";";
        Due.is("a text of 400", Due.tell(x, 0, longest), 1);
        Due.is("is a sum of 198", x.tells(0, 0, 0, 1), 99);
        Due.is("a text of 400", Due.tell(x, 0, "far 1" + "*1".repeat(196) + "-1;"), 1);
        Due.is("is 0", x.tells(0, 0, 0, 1), 0);
    }
}
