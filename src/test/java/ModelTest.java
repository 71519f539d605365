import java.util.Random;

/** Random runs of 512 calls, each answer compared with the slow model; the seeds are fixed. */
public final class ModelTest {
    private final Random r;
    private final SleightHouse x = new SleightHouse();
    private final Model m = new Model();
    private final int seed;
    private final int mostPeople;
    private int calls = 0;

    private ModelTest(int seed) {
        this.seed = seed;
        this.r = new Random(seed);
        // Brute force over marks is dear: only a few runs have many people.
        this.mostPeople = seed % 40 == 0 ? 11 : 6;
    }

    public static void main(String[] args) {
        int runs = args.length > 0 ? Integer.parseInt(args[0]) : 250;
        for (int seed = 0; seed < runs; seed++) {
            new ModelTest(seed).run();
        }
        Due.finish();
    }

    private void same(String call, long got, long want) {
        calls++;
        Due.is("seed " + seed + ", call " + calls + ": " + call, got, want);
    }

    private void same(String call, boolean got, boolean want) {
        same(call, got ? 1 : 0, want ? 1 : 0);
    }

    /** Mostly within the bounds, at times just outside or far away. */
    private int near(int low, int high) {
        int dice = r.nextInt(40);
        switch (dice) {
            case 0:
                return low - 1;
            case 1:
                return high + 1;
            case 2:
                return new int[] {Integer.MIN_VALUE, Integer.MAX_VALUE, -2, 1000}[r.nextInt(4)];
            default:
                return low + r.nextInt(high - low + 1);
        }
    }

    private int some(int count) {
        return near(0, Math.max(0, count - 1));
    }

    private int aPerson() {
        return some(m.w.people.size());
    }

    private int aThing() {
        return some(m.w.things.size());
    }

    private void run() {
        int start = r.nextInt(6);
        for (int i = 0; i < start; i++) {
            tellStock();
        }
        for (int i = 0; i < 2000 && calls < 480; i++) {
            step();
        }
        compareAll();
    }

    private void step() {
        int dice = r.nextInt(100);
        if (dice < 6) {
            tellStock();
        } else if (dice < 45) {
            doing();
        } else if (dice < 52) {
            tellText();
        } else if (dice < 62) {
            ask();
        } else if (dice < 68) {
            undoAndImage();
        } else if (dice < 85) {
            puzzleA();
        } else {
            puzzleB();
        }
    }

    private void tellStock() {
        int a = near(0, 9);
        int b = near(0, 9);
        int c = near(0, 11);
        switch (r.nextInt(5)) {
            case 0:
            case 1:
                int worth = near(0, 999);
                same("thing(" + a + "," + worth + "," + c + ")", x.thing(a, worth, c), m.thing(a, worth, c));
                break;
            case 2:
                if (m.w.people.size() < mostPeople) {
                    same("person(" + a + "," + b + ")", x.person(a, b), m.person(a, b));
                }
                break;
            case 3:
                int what = near(0, 5);
                int v = what == 0 ? near(0, 20) : what == 2 ? near(0, 999) : what == 3 ? near(0, 1) : near(0, 9);
                same("set(" + what + "," + c + "," + v + ")", x.set(what, c, v), m.set(what, c, v));
                break;
            default:
                int state = r.nextInt();
                if (r.nextInt(3) == 0) {
                    same("state(" + state + ")", x.state(state), m.state(state));
                }
                break;
        }
    }

    private void doing() {
        int person = aPerson();
        int thing = aThing();
        int place = near(0, 11);
        switch (r.nextInt(10)) {
            case 0:
            case 1:
            case 2:
                String call = "(" + person + "," + thing + "," + place + ")";
                same("where" + call, x.where(person, thing, place), m.where(person, thing, place));
                same("puts" + call, x.puts(person, thing, place), m.puts(person, thing, place));
                break;
            case 3:
            case 4:
                if (Model.in(thing, 0, m.w.things.size() - 1)) {
                    place = m.w.things.get(thing)[2];
                }
                same("brings(" + person + "," + place + ")", x.brings(person, place), m.brings(person, place));
                same("search(" + person + "," + place + ")", x.search(person, place), m.search(person, place));
                break;
            case 5:
                int what = near(0, 3);
                int who = what < 2 ? person : place;
                same("act(" + what + "," + who + ")", x.act(what, who), m.act(what, who));
                break;
            case 6:
                int release = r.nextInt(2) == 0 ? 1 : 3;
                same("act(" + release + "," + person + ")", x.act(release, person), m.act(release, person));
                break;
            case 7:
                int n = near(1, 60);
                int which = near(0, 3);
                same("goes(" + n + "," + which + ")", x.goes(n, which), m.goes(n, which));
                break;
            default:
                int hours = r.nextInt(4) == 0 ? near(1, 60) : near(1, 4);
                same("hours(" + hours + ")", x.hours(hours), m.hours(hours));
                break;
        }
    }

    private void ask() {
        int place = near(0, 11);
        int person = aPerson();
        int thing = aThing();
        int what = near(0, 4);
        switch (r.nextInt(6)) {
            case 0:
                same("place(" + place + "," + what + ")", x.place(place, what), m.place(place, what));
                break;
            case 1:
                same("of(" + thing + "," + what + ")", x.of(thing, what), m.of(thing, what));
                break;
            case 2:
                same("who(" + person + "," + what + ")", x.who(person, what), m.who(person, what));
                break;
            case 3:
                what = near(0, 2);
                same("tells(" + person + "," + thing + "," + place + "," + what + ")",
                    x.tells(person, thing, place, what), m.tells(person, thing, place, what));
                break;
            case 4:
                int i = some(m.w.book.size());
                what = near(0, 3);
                same("book(" + i + "," + what + ")", x.book(i, what), m.book(i, what));
                break;
            default:
                what = near(0, 12);
                same("look(" + what + ")", x.look(what), m.look(what));
                break;
        }
    }

    private void undoAndImage() {
        int dice = r.nextInt(10);
        if (dice < 7) {
            same("undo()", x.undo(), m.undo());
        } else {
            boolean taken = r.nextInt(2) == 0;
            same("image(" + taken + ")", x.image(taken), m.image(taken));
        }
    }

    private void puzzleA() {
        int a = near(-1, 9);
        int b = near(0, 9);
        switch (r.nextInt(12)) {
            case 0:
                a = r.nextInt(20) == 0 ? -1 : near(0, 9);
                same("swap(" + a + "," + b + ")", x.swap(a, b), m.swap(a, b));
                break;
            case 1:
                a = near(-2, 9);
                same("under(" + a + ")", x.under(a), m.under(a));
                break;
            case 2:
                a = near(-1, 2);
                same("pick(" + a + ")", x.pick(a), m.pick(a));
                break;
            case 3:
                int n = r.nextInt(10) == 0 ? near(3, 30) : 3 * near(1, 10);
                int c = near(-1, Math.max(1, Math.min(n, 30)) - 1);
                same("card(" + n + "," + c + ")", x.card(n, c), m.card(n, c));
                break;
            case 4:
            case 5:
                a = r.nextInt(20) == 0 ? -1 : near(1, 30);
                b = near(1, 30);
                same("box(" + a + "," + b + ")", x.box(a, b), m.box(a, b));
                break;
            case 6:
                a = near(0, 1);
                same("boxes(" + a + ")", x.boxes(a), m.boxes(a));
                break;
            case 7:
            case 8:
                a = r.nextInt(30) == 0 ? -1 : near(0, 9);
                same("key(" + a + "," + b + ")", x.key(a, b), m.key(a, b));
                break;
            case 9:
                a = r.nextInt(2) == 0 ? -1 : near(0, 1023);
                same("opened(" + a + ")", x.opened(a), m.opened(a));
                break;
            case 10:
                int size = near(1, 40);
                int k = near(1, 20);
                int who = near(-1, Math.max(1, Math.min(size, 40)) - 1);
                same("ring(" + size + "," + k + "," + who + ")", x.ring(size, k, who), m.ring(size, k, who));
                break;
            default:
                int person = near(0, 11);
                int v = near(0, 2);
                same("gift(" + person + "," + v + ")", x.gift(person, v), m.gift(person, v));
                int asked = r.nextInt(2) == 0 ? -1 : aPerson();
                same("heir(" + asked + ")", x.heir(asked), m.heir(asked));
                break;
        }
    }

    private void puzzleB() {
        switch (r.nextInt(12)) {
            case 0:
                int coins = near(2, 1000);
                int kind = near(0, 1);
                same("weighings(" + coins + "," + kind + ")", x.weighings(coins, kind), m.weighings(coins, kind));
                break;
            case 1:
                int n = near(1, 20);
                int moves = r.nextInt(3) == 0 ? near(-1, 1000000) : near(-1, 40);
                same("rings(" + n + "," + moves + ")", x.rings(n, moves), m.rings(n, moves));
                break;
            case 2:
                int hats = near(1, 12);
                int own = near(0, 12);
                same("hats(" + hats + "," + own + ")", x.hats(hats, own), m.hats(hats, own));
                break;
            case 3:
            case 4:
            case 5:
                int place = near(0, 35);
                int v = near(0, 2);
                same("mirror(" + place + "," + v + ")", x.mirror(place, v), m.mirror(place, v));
                int edge = near(0, 23);
                int what = near(0, 1);
                same("glance(" + edge + "," + what + ")", x.glance(edge, what), m.glance(edge, what));
                break;
            case 6:
            case 7:
                int thing = r.nextInt(30) == 0 ? -1 : near(0, 7);
                int at = near(0, 7);
                boolean is = r.nextInt(5) == 0;
                same("clue(" + thing + "," + at + "," + is + ")", x.clue(thing, at, is), m.clue(thing, at, is));
                int asked = near(-1, 7);
                if (m.t.clues.size() > 3 || r.nextInt(20) == 0) {
                    same("fits(" + asked + ")", x.fits(asked), m.fits(asked));
                }
                break;
            case 8:
                int parts = r.nextInt(20) == 0 ? -1 : near(1, 30);
                same("share(" + parts + ")", x.share(parts), m.share(parts));
                break;
            case 9:
                int worth = near(0, 9999);
                int i = some(m.t.shares.size());
                same("gets(" + worth + "," + i + ")", x.gets(worth, i), m.gets(worth, i));
                break;
            case 10:
                int most = m.t.rows.size() < 2 ? 30 : 6;
                int cups = r.nextInt(8) == 0 ? -1 : r.nextInt(20) == 0 ? 31 : r.nextInt(most + 1);
                same("row(" + cups + ")", x.row(cups), m.row(cups));
                break;
            default:
                int which = near(0, 1);
                same("game(" + which + ")", x.game(which), m.game(which));
                break;
        }
    }

    private void tellText() {
        int k = r.nextInt(12) == 0 ? near(0, 3) : r.nextInt(4);
        StringBuilder text = new StringBuilder();
        int lines = r.nextInt(12) == 0 ? 17 : r.nextInt(9);
        for (int i = 0; i < lines; i++) {
            text.append(line(k));
            text.append(r.nextInt(3) == 0 ? "\n" : "");
        }
        if (r.nextInt(4) == 0 && text.length() > 0) {
            mutate(text);
        }
        String all = text.length() > 400 ? text.substring(0, 400) : text.toString();
        for (int i = 0; i < all.length(); i += 20) {
            int[] w = new int[5];
            for (int j = 0; j < 20; j++) {
                int sign = i + j < all.length() ? all.charAt(i + j) & 255 : r.nextInt(256);
                w[j / 4] |= sign << (24 - 8 * (j % 4));
            }
            same("feed", x.feed(w[0], w[1], w[2], w[3], w[4]), m.feed(w));
        }
        same("end(" + all.length() + ")", x.end(all.length()), m.end(all.length()));
        if (r.nextInt(20) == 0) {
            int n = near(0, 400);
            same("end(" + n + ")", x.end(n), m.end(n));
        }
        same("text(" + k + ") of \"" + all + "\"", x.text(k), m.text(k));
        same("fault(0) of \"" + all + "\"", x.fault(0), m.fault(0));
        same("fault(1) of \"" + all + "\"", x.fault(1), m.fault(1));
    }

    private void mutate(StringBuilder text) {
        int at = r.nextInt(text.length());
        String signs = "()+-*/<=>;09azX\t#" + (char) 233 + " \n";
        switch (r.nextInt(3)) {
            case 0:
                text.deleteCharAt(at);
                break;
            case 1:
                text.insert(at, signs.charAt(r.nextInt(signs.length())));
                break;
            default:
                text.setCharAt(at, signs.charAt(r.nextInt(signs.length())));
                break;
        }
    }

    private String line(int k) {
        int hour = r.nextInt(30) == 0 ? near(0, 999) : m.w.hour + r.nextInt(3);
        switch (k) {
            case 0:
                String law = new String[] {"palms ", "far ", "finds "}[r.nextInt(3)] + sum(0);
                return law + (r.nextInt(3) > 0 ? " when " + any(0) : "") + ";";
            case 1:
                return "at " + hour + " person " + told(m.w.people.size()) + " puts " + told(m.w.things.size())
                    + " in " + told(12) + ";";
            case 2:
                String[] customs = {"tie", "loose", "lock", "open", "search"};
                int what = r.nextInt(5);
                return "at " + hour + customs[what] + told(what == 2 || what == 3 ? 12 : m.w.people.size())
                    + (what == 4 ? " " + told(12) : "") + ";";
            default:
                return "person " + told(m.w.people.size()) + " child of " + told(m.w.people.size()) + ";";
        }
    }

    private int told(int count) {
        return r.nextInt(40) == 0 ? count : r.nextInt(Math.max(1, count));
    }

    private String sum(int depth) {
        StringBuilder s = new StringBuilder(product());
        while (r.nextInt(3) == 0) {
            s.append(r.nextBoolean() ? "+" : " - ").append(product());
        }
        return s.toString();
    }

    private String product() {
        StringBuilder s = new StringBuilder(unit());
        while (r.nextInt(3) == 0) {
            if (r.nextInt(3) == 0) {
                s.append("/").append(r.nextInt(30) == 0 ? "0" : "" + (1 + r.nextInt(20)));
            } else {
                s.append("*").append(unit());
            }
        }
        return s.toString();
    }

    private String unit() {
        String[] facts = {"sleight", "wits", "size", "worth", "place", "full", "lock", "moved", "lost", "palmed", "hour"};
        if (r.nextInt(3) == 0) {
            return facts[r.nextInt(facts.length)];
        }
        return "" + (r.nextInt(4) == 0 ? r.nextInt(r.nextInt(20) == 0 ? 20000 : 10000) : r.nextInt(600));
    }

    private String any(int depth) {
        return all(depth) + (r.nextInt(4) == 0 ? " or " + any(depth) : "");
    }

    private String all(int depth) {
        return claim(depth) + (r.nextInt(4) == 0 ? " and " + all(depth) : "");
    }

    private String claim(int depth) {
        int dice = depth > 9 ? 9 : r.nextInt(8);
        if (dice == 0 || dice == 1 && depth > 0) {
            return "(" + any(depth + 1) + ")";
        }
        if (dice < 3) {
            return "not " + claim(depth + 1);
        }
        return sum(0) + new String[] {"<", "=", ">"}[r.nextInt(3)] + sum(0);
    }

    /** What a call can't see must not differ either: asked all at the end, on top of the counted calls. */
    private void compareAll() {
        for (int i = 0; i <= 12; i++) {
            same("look(" + i + ")", x.look(i), m.look(i));
        }
        for (int i = 0; i < 16; i++) {
            for (int what = 0; what < 5; what++) {
                same("of", x.of(i, what), m.of(i, what));
                same("place", x.place(i, what), m.place(i, what));
                same("who", x.who(i, what), m.who(i, what));
            }
        }
        for (int i = 0; i <= 150; i++) {
            for (int what = 0; what < 4; what++) {
                same("book " + i + " " + what, x.book(i, what), m.book(i, what));
            }
        }
    }
}
