import java.util.ArrayDeque;
import java.util.ArrayList;
import java.util.Arrays;
import java.util.Deque;
import java.util.HashMap;
import java.util.List;
import java.util.Map;

/** The document once more, slowly and by other ways (brute force, copies, exceptions), to be compared with. */
final class Model {
    static final int NONE = -1;

    static final class Fault extends Exception {
        private static final long serialVersionUID = 1L;
        final int kind;
        final int place;

        Fault(int kind, int place) {
            this.kind = kind;
            this.place = place;
        }
    }

    /** What can be undone, and what only telling changes: all copied together. */
    static final class World {
        int[] room = new int[12];
        int[] lock = new int[12];
        int[] searched = new int[12];
        List<int[]> things = new ArrayList<>(); // size, worth, in, moved, lost
        List<int[]> people = new ArrayList<>(); // sleight, wits, tied, palmed
        int found;
        int hour;
        int state;
        List<int[]> book = new ArrayList<>();
        List<int[]> supper = new ArrayList<>();
        List<int[]> customs = new ArrayList<>();

        World copy() {
            World w = new World();
            w.room = room.clone();
            w.lock = lock.clone();
            w.searched = searched.clone();
            w.things = copyOf(things);
            w.people = copyOf(people);
            w.found = found;
            w.hour = hour;
            w.state = state;
            w.book = copyOf(book);
            w.supper = copyOf(supper);
            w.customs = copyOf(customs);
            return w;
        }
    }

    /** What undoing leaves as it is. */
    static final class Told {
        List<Line> law = new ArrayList<>();
        List<int[]> line = new ArrayList<>();
        List<int[]> swaps = new ArrayList<>();
        List<Integer> picks = new ArrayList<>();
        List<int[]> boxes = new ArrayList<>();
        List<int[]> keys = new ArrayList<>();
        int[] gifts = new int[12];
        int[] mirrors = new int[36];
        List<int[]> clues = new ArrayList<>();
        List<Integer> shares = new ArrayList<>();
        List<Integer> rows = new ArrayList<>();

        Told copy() {
            Told t = new Told();
            t.law = new ArrayList<>(law);
            t.line = copyOf(line);
            t.swaps = copyOf(swaps);
            t.picks = new ArrayList<>(picks);
            t.boxes = copyOf(boxes);
            t.keys = copyOf(keys);
            t.gifts = gifts.clone();
            t.mirrors = mirrors.clone();
            t.clues = copyOf(clues);
            t.shares = new ArrayList<>(shares);
            t.rows = new ArrayList<>(rows);
            return t;
        }
    }

    interface Node {
        int value(Map<String, Integer> facts);
    }

    record Line(String word, Node value, Node when) {
    }

    World w = new World();
    Told t = new Told();
    World imageWorld;
    Told imageTold;
    Deque<World> past = new ArrayDeque<>();
    String tape = "";
    int fault = 0;
    int faultPlace = NONE;
    boolean thinking = false;

    Model() {
        Arrays.fill(w.room, 9);
        Arrays.fill(t.gifts, 2);
    }

    static List<int[]> copyOf(List<int[]> rows) {
        List<int[]> all = new ArrayList<>();
        for (int[] row : rows) {
            all.add(row.clone());
        }
        return all;
    }

    static boolean in(int v, int low, int high) {
        return low <= v && v <= high;
    }

    boolean isThing(int i) {
        return in(i, 0, w.things.size() - 1);
    }

    boolean isPerson(int i) {
        return in(i, 0, w.people.size() - 1);
    }

    int state(int v) {
        int was = w.state;
        w.state = v;
        past.clear();
        return was;
    }

    int thing(int size, int worth, int place) {
        if (!in(size, 1, 9) || !in(worth, 0, 999) || !in(place, 0, 11) || w.things.size() == 16) {
            return NONE;
        }
        w.things.add(new int[] {size, worth, place, 0, 0});
        past.clear();
        return w.things.size() - 1;
    }

    int person(int sleight, int wits) {
        if (!in(sleight, 0, 9) || !in(wits, 0, 9) || w.people.size() == 12) {
            return NONE;
        }
        w.people.add(new int[] {sleight, wits, 0, 0});
        past.clear();
        return w.people.size() - 1;
    }

    boolean set(int what, int who, int v) {
        int[][] bounds = {{0, 99}, {1, 9}, {0, 999}, {0, 1}, {0, 9}, {0, 9}};
        if (!in(what, 0, 5) || !in(v, bounds[what][0], bounds[what][1])) {
            return false;
        }
        if (what == 0) {
            if (!in(who, 0, 11)) {
                return false;
            }
            w.room[who] = v;
        } else if (what <= 3) {
            if (!isThing(who)) {
                return false;
            }
            w.things.get(who)[what == 3 ? 4 : what - 1] = v;
        } else {
            if (!isPerson(who)) {
                return false;
            }
            w.people.get(who)[what - 4] = v;
        }
        past.clear();
        return true;
    }

    void keep() {
        past.addLast(w.copy());
        if (past.size() > 6) {
            past.removeFirst();
        }
    }

    int full(int place) {
        int sum = 0;
        for (int[] thing : w.things) {
            sum += thing[2] == place ? thing[0] : 0;
        }
        return sum;
    }

    void note(int what, int which, int much) {
        if (w.book.size() < 150) {
            w.book.add(new int[] {w.hour, what, which, much});
        }
    }

    int draw(int m) {
        w.state = (int) (w.state * 1664525L + 1013904223L);
        return (int) (((w.state & 0xffffffffL) >> 8) % m);
    }

    boolean chance(int likely) {
        return thinking ? likely >= 500 : draw(1000) < likely;
    }

    /** Whether it was put: then palmed[0] is one more if it was palmed. */
    boolean put(int person, int number, int place, int[] palmed) {
        if (!isPerson(person) || !isThing(number) || !in(place, 0, 11)) {
            return false;
        }
        int[] p = w.people.get(person);
        int[] thing = w.things.get(number);
        if (p[2] == 1 || w.lock[place] == 1 || w.lock[thing[2]] == 1) {
            return false;
        }
        int was = thing[2];
        thing[2] = NONE;
        if (full(place) + thing[0] > w.room[place]) {
            thing[2] = was;
            return false;
        }
        thing[2] = place;
        thing[3]++;
        thing[4] = 0;
        note(0, number, place);
        int palms = tells(person, number, place, 0);
        if (palms > 0 && chance(palms)) {
            int far = tells(person, number, place, 1);
            List<Integer> order = new ArrayList<>();
            for (int i = 0; i < 12; i++) {
                order.add((place + far + i) % 12);
            }
            order.remove(Integer.valueOf(place));
            order.add(place);
            thing[2] = NONE;
            for (int other : order) {
                if (full(other) + thing[0] <= w.room[other]) {
                    thing[2] = other;
                    break;
                }
            }
            thing[3]++;
            p[3]++;
            thing[4] = 1;
            note(1, number, person);
            palmed[0]++;
        }
        return true;
    }

    int puts(int person, int thing, int place) {
        World before = w.copy();
        if (!put(person, thing, place, new int[1])) {
            return NONE;
        }
        World after = w;
        w = before;
        keep();
        w = after;
        return w.things.get(thing)[2];
    }

    int find(int person, int place) {
        if (!isPerson(person) || !in(place, 0, 11) || w.people.get(person)[2] == 1) {
            return NONE;
        }
        w.searched[place]++;
        note(2, place, person);
        int found = 0;
        for (int i = 0; w.lock[place] == 0 && i < w.things.size(); i++) {
            int[] thing = w.things.get(i);
            if (thing[2] == place && thing[4] == 1 && chance(tells(person, i, place, 2))) {
                thing[4] = 0;
                found++;
                note(3, i, person);
            }
        }
        w.found += found;
        return found;
    }

    int search(int person, int place) {
        World before = w.copy();
        int found = find(person, place);
        if (found != NONE) {
            World after = w;
            w = before;
            keep();
            w = after;
        }
        return found;
    }

    boolean act(int what, int who) {
        if (what == 0 || what == 1) {
            if (!isPerson(who) || w.people.get(who)[2] == 1 - what) {
                return false;
            }
            keep();
            w.people.get(who)[2] = 1 - what;
            return true;
        }
        if (what == 2 || what == 3) {
            if (!in(who, 0, 11) || w.lock[who] == 3 - what) {
                return false;
            }
            keep();
            w.lock[who] = 3 - what;
            return true;
        }
        return false;
    }

    int hour() {
        for (int[] c : w.customs) {
            if (c[0] == w.hour) {
                switch (c[1]) {
                    case 0 -> w.people.get(c[2])[2] = 1;
                    case 1 -> w.people.get(c[2])[2] = 0;
                    case 2 -> w.lock[c[2]] = 1;
                    case 3 -> w.lock[c[2]] = 0;
                    default -> find(c[2], c[3]);
                }
            }
        }
        int[] palmed = new int[1];
        for (int[] s : w.supper) {
            if (s[0] == w.hour) {
                put(s[1], s[2], s[3], palmed);
            }
        }
        for (int place = 0; place < 12; place++) {
            while (full(place) > w.room[place]) {
                int last = NONE;
                for (int i = 0; i < w.things.size(); i++) {
                    if (w.things.get(i)[2] == place) {
                        last = i;
                    }
                }
                w.things.get(last)[2] = (place + 1) % 12;
                w.things.get(last)[4] = 1;
                note(4, last, (place + 1) % 12);
            }
        }
        w.hour++;
        return palmed[0];
    }

    int hours(int n) {
        if (!in(n, 1, 60) || w.hour + n > 9999) {
            return NONE;
        }
        int palmed = 0;
        for (int i = 0; i < n; i++) {
            keep();
            palmed += hour();
        }
        return palmed;
    }

    int feed(int... words) {
        if (tape.length() + 20 > 400) {
            return NONE;
        }
        for (int word : words) {
            for (int shift = 24; shift >= 0; shift -= 8) {
                tape += (char) (word >> shift & 255);
            }
        }
        return tape.length();
    }

    boolean end(int n) {
        if (!in(n, 0, tape.length())) {
            return false;
        }
        tape = tape.substring(0, n);
        return true;
    }

    int text(int k) {
        String all = tape;
        tape = "";
        fault = 0;
        faultPlace = NONE;
        if (!in(k, 0, 3)) {
            return NONE;
        }
        try {
            Parser p = new Parser(all, k);
            p.parse();
            switch (k) {
                case 0 -> t.law = p.law;
                case 1 -> w.supper = p.rows;
                case 2 -> w.customs = p.rows;
                default -> t.line = p.rows;
            }
            if (k == 1 || k == 2) {
                past.clear();
            }
            return k == 0 ? p.law.size() : p.rows.size();
        } catch (Fault f) {
            fault = f.kind;
            faultPlace = f.place;
            return NONE;
        }
    }

    int fault(int what) {
        return what == 0 ? fault : what == 1 ? faultPlace : NONE;
    }

    int place(int place, int what) {
        if (!in(place, 0, 11) || !in(what, 0, 4)) {
            return NONE;
        }
        int set = 0;
        for (int i = 0; i < w.things.size(); i++) {
            set |= w.things.get(i)[2] == place ? 1 << i : 0;
        }
        return new int[] {w.room[place], w.lock[place], w.searched[place], full(place), set}[what];
    }

    int of(int thing, int what) {
        return isThing(thing) && in(what, 0, 4) ? w.things.get(thing)[what] : NONE;
    }

    int who(int person, int what) {
        if (!isPerson(person) || !in(what, 0, 4)) {
            return NONE;
        }
        int parents = 0;
        for (int[] line : t.line) {
            parents |= line[0] == person ? 1 << line[1] : 0;
        }
        return what == 4 ? parents : w.people.get(person)[what];
    }

    int tells(int person, int number, int place, int what) {
        if (!isPerson(person) || !isThing(number) || !in(place, 0, 11) || !in(what, 0, 2)) {
            return NONE;
        }
        int[] p = w.people.get(person);
        int[] thing = w.things.get(number);
        Map<String, Integer> facts = new HashMap<>();
        facts.put("sleight", p[0]);
        facts.put("wits", p[1]);
        facts.put("palmed", p[3]);
        facts.put("size", thing[0]);
        facts.put("worth", thing[1]);
        facts.put("moved", thing[3]);
        facts.put("lost", thing[4]);
        facts.put("place", place);
        facts.put("full", full(place));
        facts.put("lock", w.lock[place]);
        facts.put("hour", w.hour);
        String word = List.of("palms", "far", "finds").get(what);
        int told = what == 0 ? 80 * p[0] - 20 * thing[0] : what == 1 ? 1 + p[0] : 500 + 50 * p[1];
        for (Line line : t.law) {
            if (line.word().equals(word) && (line.when() == null || line.when().value(facts) == 1)) {
                told = line.value().value(facts);
                break;
            }
        }
        return Math.max(0, Math.min(what == 1 ? 99 : 1000, told));
    }

    int book(int i, int what) {
        return in(i, 0, w.book.size() - 1) && in(what, 0, 3) ? w.book.get(i)[what] : NONE;
    }

    int goes(int n, int what) {
        if (!in(n, 1, 60) || !in(what, 0, 3)) {
            return NONE;
        }
        World before = w.copy();
        thinking = true;
        for (int i = 0; i < n; i++) {
            hour();
        }
        int lost = 0;
        int palmed = 0;
        int searched = 0;
        for (int[] thing : w.things) {
            lost += thing[4];
        }
        for (int[] p : w.people) {
            palmed += p[3];
        }
        for (int s : w.searched) {
            searched += s;
        }
        int found = w.found;
        thinking = false;
        w = before;
        return new int[] {found, lost, palmed, searched}[what];
    }

    int where(int person, int thing, int place) {
        World before = w.copy();
        thinking = true;
        int at = put(person, thing, place, new int[1]) ? w.things.get(thing)[2] : NONE;
        thinking = false;
        w = before;
        return at;
    }

    int brings(int person, int place) {
        World before = w.copy();
        thinking = true;
        int found = find(person, place);
        thinking = false;
        w = before;
        return found;
    }

    int swap(int a, int b) {
        if (a == NONE) {
            t.swaps.clear();
            return 0;
        }
        if (!in(a, 0, 9) || !in(b, 0, 9) || a == b || t.swaps.size() == 16) {
            return NONE;
        }
        t.swaps.add(new int[] {a, b});
        return t.swaps.size();
    }

    int under(int c) {
        int[] cups = {0, 1, 2, 3, 4, 5, 6, 7, 8, 9};
        for (int[] s : t.swaps) {
            int held = cups[s[0]];
            cups[s[0]] = cups[s[1]];
            cups[s[1]] = held;
        }
        if (in(c, 0, 9)) {
            for (int i = 0; i < 10; i++) {
                if (cups[i] == c) {
                    return i;
                }
            }
        }
        int sorted = 0;
        for (int i = 0; i < 10; i++) {
            while (cups[i] != i) {
                int j = cups[i];
                cups[i] = cups[j];
                cups[j] = j;
                sorted++;
            }
        }
        return c == -1 ? sorted : c == -2 ? 1 - sorted % 2 : NONE;
    }

    int pick(int pile) {
        if (pile == NONE) {
            t.picks.clear();
            return 0;
        }
        if (!in(pile, 0, 2) || t.picks.size() == 4) {
            return NONE;
        }
        t.picks.add(pile);
        return t.picks.size();
    }

    static List<Integer> deal(List<Integer> cards, int told) {
        List<List<Integer>> piles = List.of(new ArrayList<>(), new ArrayList<>(), new ArrayList<>());
        for (int i = 0; i < cards.size(); i++) {
            piles.get(i % 3).add(cards.get(i));
        }
        List<Integer> all = new ArrayList<>();
        int[][] order = {{1, 0, 2}, {0, 1, 2}, {0, 2, 1}};
        for (int pile : order[told]) {
            all.addAll(piles.get(pile));
        }
        return all;
    }

    int card(int n, int c) {
        if (!in(n, 3, 30) || n % 3 != 0 || !in(c, NONE, n - 1)) {
            return NONE;
        }
        List<Integer> first = new ArrayList<>();
        for (int i = 0; i < n; i++) {
            first.add(i);
        }
        List<Integer> cards = first;
        if (c == NONE) {
            for (int i = 1; i <= 99; i++) {
                cards = deal(cards, 1);
                if (cards.equals(first)) {
                    return i;
                }
            }
            return NONE;
        }
        for (int pick : t.picks) {
            cards = deal(cards, pick);
        }
        return cards.indexOf(c);
    }

    int box(int far, int broad) {
        if (far == NONE) {
            t.boxes.clear();
            return 0;
        }
        if (!in(far, 1, 30) || !in(broad, 1, 30) || t.boxes.size() == 8) {
            return NONE;
        }
        t.boxes.add(new int[] {far, broad});
        return t.boxes.size();
    }

    boolean into(int a, int b) {
        int[] x = t.boxes.get(a);
        int[] y = t.boxes.get(b);
        return x[0] < y[0] && x[1] < y[1] || x[1] < y[0] && x[0] < y[1];
    }

    int boxes(int what) {
        int best = 0;
        int outermost = NONE;
        for (int set = 1; set < 1 << t.boxes.size(); set++) {
            boolean chain = true;
            int outer = NONE;
            for (int i = 0; i < 8; i++) {
                for (int j = 0; j < i; j++) {
                    if ((set >> i & 1) == 1 && (set >> j & 1) == 1 && !into(i, j) && !into(j, i)) {
                        chain = false;
                    }
                }
                if ((set >> i & 1) == 1 && (outer == NONE || chain && into(outer, i))) {
                    outer = i;
                }
            }
            int count = Integer.bitCount(set);
            if (chain && (count > best || count == best && outer < outermost)) {
                best = count;
                outermost = outer;
            }
        }
        return what == 0 ? best : what == 1 ? outermost : NONE;
    }

    int key(int a, int b) {
        if (a == NONE) {
            t.keys.clear();
            return 0;
        }
        if (!in(a, 0, 9) || !in(b, 0, 9) || t.keys.size() == 12) {
            return NONE;
        }
        t.keys.add(new int[] {a, b});
        return t.keys.size();
    }

    int opened(int open) {
        if (!in(open, NONE, 1023)) {
            return NONE;
        }
        if (open != NONE) {
            int set = open;
            boolean grown = true;
            while (grown) {
                grown = false;
                for (int[] key : t.keys) {
                    if ((set >> key[0] & 1) == 1 && (set >> key[1] & 1) == 0) {
                        set |= 1 << key[1];
                        grown = true;
                    }
                }
            }
            return set;
        }
        int fewest = 10;
        for (int set = 0; set < 1024; set++) {
            if (Integer.bitCount(set) < fewest && opened(set) == 1023) {
                fewest = Integer.bitCount(set);
            }
        }
        return fewest;
    }

    int ring(int n, int k, int who) {
        if (!in(n, 1, 40) || !in(k, 1, 20) || !in(who, NONE, n - 1)) {
            return NONE;
        }
        Deque<Integer> ring = new ArrayDeque<>();
        for (int i = 0; i < n; i++) {
            ring.addLast(i);
        }
        int last = NONE;
        for (int turn = 1; turn <= n; turn++) {
            for (int i = 1; i < k; i++) {
                ring.addLast(ring.removeFirst());
            }
            last = ring.removeFirst();
            if (last == who) {
                return turn;
            }
        }
        return last;
    }

    boolean gift(int person, int v) {
        if (!in(person, 0, 11) || !in(v, 0, 2)) {
            return false;
        }
        t.gifts[person] = v;
        return true;
    }

    int heir(int person) {
        if (!in(person, NONE, w.people.size() - 1)) {
            return NONE;
        }
        int n = w.people.size();
        int all = 1;
        for (int i = 0; i < n; i++) {
            all *= 3;
        }
        int[][] parents = new int[n][];
        for (int i = 0; i < n; i++) {
            List<Integer> told = new ArrayList<>();
            for (int[] line : t.line) {
                if (line[0] == i && !told.contains(line[1])) {
                    told.add(line[1]);
                }
            }
            parents[i] = told.stream().mapToInt(x -> x).toArray();
        }
        int ways = 0;
        int few = 9;
        int many = NONE;
        int[] marks = new int[n];
        for (int code = 0; code < all; code++) {
            for (int i = 0, rest = code; i < n; i++, rest /= 3) {
                marks[i] = rest % 3;
            }
            if (canBe(marks, parents)) {
                ways++;
                if (person != NONE) {
                    few = Math.min(few, marks[person]);
                    many = Math.max(many, marks[person]);
                }
            }
        }
        return person == NONE ? ways : ways == 0 ? NONE : 10 * few + many;
    }

    boolean canBe(int[] marks, int[][] parents) {
        for (int i = 0; i < marks.length; i++) {
            if (t.gifts[i] == 0 && marks[i] > 0 || t.gifts[i] == 1 && marks[i] == 0) {
                return false;
            }
            boolean some = false;
            for (int a = 0; a <= 1; a++) {
                int b = marks[i] - a;
                some |= b >= 0 && b <= 1 && hands(marks, parents[i], 0, a) && hands(marks, parents[i], 1, b);
            }
            if (!some) {
                return false;
            }
        }
        return true;
    }

    static boolean hands(int[] marks, int[] parents, int which, int mark) {
        if (which >= parents.length || marks[parents[which]] == 1) {
            return true;
        }
        return marks[parents[which]] / 2 == mark;
    }

    int weighings(int n, int what) {
        if (!in(what, 0, 1) || !in(n, what == 1 ? 3 : 2, 1000)) {
            return NONE;
        }
        int count = 0;
        while (what == 0 ? Math.pow(3, count) < n : (Math.pow(3, count) - 1) / 2 < n) {
            count++;
        }
        return count;
    }

    int rings(int n, int m) {
        if (!in(n, 1, 20) || !in(m, NONE, 1000000)) {
            return NONE;
        }
        int state = (1 << n) - 1;
        // The states stand in one row: all on is left by the move that does not lead to its end.
        boolean first = n % 2 == 1;
        int moves = 0;
        while (state != 0) {
            if (moves == m) {
                return state;
            }
            state ^= first ? 1 : Integer.lowestOneBit(state) << 1;
            first = !first;
            moves++;
        }
        return m == NONE ? moves : m == moves ? 0 : NONE;
    }

    int hats(int n, int k) {
        if (!in(n, 1, 12) || !in(k, 0, n)) {
            return NONE;
        }
        long ways = 0;
        for (int j = 0; j <= n - k; j++) {
            long term = factorial(n) / factorial(k) / factorial(j);
            ways += j % 2 == 0 ? term : -term;
        }
        return (int) ways;
    }

    static long factorial(int n) {
        return n <= 1 ? 1 : n * factorial(n - 1);
    }

    boolean mirror(int place, int v) {
        if (!in(place, 0, 35) || !in(v, 0, 2)) {
            return false;
        }
        t.mirrors[place] = v;
        return true;
    }

    int glance(int edge, int what) {
        if (!in(edge, 0, 23) || !in(what, 0, 1)) {
            return NONE;
        }
        int i = edge % 6;
        int[][] starts = {{0, i, 1, 0}, {i, 5, 0, -1}, {5, i, -1, 0}, {i, 0, 0, 1}};
        int[] s = starts[edge / 6];
        int met = 0;
        while (in(s[0], 0, 5) && in(s[1], 0, 5)) {
            int mirror = t.mirrors[s[0] * 6 + s[1]];
            int down = s[2];
            if (mirror != 0) {
                met++;
                s[2] = mirror == 1 ? -s[3] : s[3];
                s[3] = mirror == 1 ? -down : down;
            }
            s[0] += s[2];
            s[1] += s[3];
        }
        int out = s[0] < 0 ? s[1] : s[1] > 5 ? 6 + s[0] : s[0] > 5 ? 12 + s[1] : 18 + s[0];
        return what == 0 ? out : met;
    }

    int clue(int thing, int place, boolean is) {
        if (thing == NONE) {
            t.clues.clear();
            return 0;
        }
        if (!in(thing, 0, 7) || !in(place, 0, 7) || t.clues.size() == 10) {
            return NONE;
        }
        t.clues.add(new int[] {thing, place, is ? 1 : 0});
        return t.clues.size();
    }

    int fits(int thing) {
        if (!in(thing, NONE, 7)) {
            return NONE;
        }
        int[] ways = new int[9];
        seat(new int[8], 0, 0, thing, ways);
        if (thing == NONE) {
            return ways[8];
        }
        int sure = NONE;
        for (int i = 0; i < 8; i++) {
            if (ways[i] > 0 && ways[i] == ways[8]) {
                sure = i;
            }
        }
        return sure;
    }

    void seat(int[] seats, int next, int used, int thing, int[] ways) {
        if (next == 8) {
            ways[8]++;
            if (thing != NONE) {
                ways[seats[thing]]++;
            }
            return;
        }
        for (int place = 0; place < 8; place++) {
            boolean fine = (used >> place & 1) == 0;
            for (int[] clue : t.clues) {
                fine &= clue[0] != next || (clue[1] == place) == (clue[2] == 1);
            }
            if (fine) {
                seats[next] = place;
                seat(seats, next + 1, used | 1 << place, thing, ways);
            }
        }
    }

    int share(int parts) {
        if (parts == NONE) {
            t.shares.clear();
            return 0;
        }
        if (!in(parts, 1, 30) || t.shares.size() == 6) {
            return NONE;
        }
        t.shares.add(parts);
        return t.shares.size();
    }

    int gets(int worth, int who) {
        if (!in(worth, 0, 9999) || !in(who, 0, t.shares.size() - 1)) {
            return NONE;
        }
        int all = t.shares.stream().mapToInt(x -> x).sum();
        int[] got = new int[t.shares.size()];
        List<Integer> order = new ArrayList<>();
        int rest = worth;
        for (int i = 0; i < got.length; i++) {
            got[i] = worth * t.shares.get(i) / all;
            rest -= got[i];
            order.add(i);
        }
        order.sort((a, b) -> worth * t.shares.get(b) % all - worth * t.shares.get(a) % all);
        for (int i = 0; i < rest; i++) {
            got[order.get(i)]++;
        }
        return got[who];
    }

    int row(int cups) {
        if (cups == NONE) {
            t.rows.clear();
            return 0;
        }
        if (!in(cups, 0, 30) || t.rows.size() == 5) {
            return NONE;
        }
        t.rows.add(cups);
        return t.rows.size();
    }

    int game(int what) {
        if (!in(what, 0, 1)) {
            return NONE;
        }
        Map<List<Integer>, Boolean> known = new HashMap<>();
        List<Integer> rows = new ArrayList<>(t.rows);
        for (int i = 0; i < rows.size(); i++) {
            int cups = rows.get(i);
            for (int take = 1; take <= (cups + 1) / 2; take++) {
                rows.set(i, cups - take);
                if (!wins(rows, known)) {
                    return what == 0 ? i : take;
                }
                rows.set(i, cups);
            }
        }
        return NONE;
    }

    static boolean wins(List<Integer> rows, Map<List<Integer>, Boolean> known) {
        List<Integer> sorted = new ArrayList<>(rows);
        sorted.sort(null);
        Boolean before = known.get(sorted);
        if (before != null) {
            return before;
        }
        boolean won = false;
        for (int i = 0; i < sorted.size() && !won; i++) {
            int cups = sorted.get(i);
            for (int take = 1; take <= (cups + 1) / 2 && !won; take++) {
                List<Integer> next = new ArrayList<>(sorted);
                next.set(i, cups - take);
                won = !wins(next, known);
            }
        }
        known.put(sorted, won);
        return won;
    }

    boolean undo() {
        if (past.isEmpty()) {
            return false;
        }
        w = past.removeLast();
        return true;
    }

    boolean image(boolean taken) {
        if (taken) {
            imageWorld = w.copy();
            imageTold = t.copy();
            return true;
        }
        if (imageWorld == null) {
            return false;
        }
        w = imageWorld.copy();
        t = imageTold.copy();
        past.clear();
        return true;
    }

    int look(int what) {
        int lost = 0;
        int locked = 0;
        for (int i = 0; i < w.things.size(); i++) {
            lost |= w.things.get(i)[4] << i;
        }
        for (int i = 0; i < 12; i++) {
            locked |= w.lock[i] << i;
        }
        int[] all = {w.things.size(), w.people.size(), w.found, lost, locked, w.hour, w.book.size(), w.state,
            t.law.size(), w.supper.size(), w.customs.size(), t.line.size(), past.size()};
        return in(what, 0, 12) ? all[what] : NONE;
    }

    /** Reads token by token from the text itself, and throws the first fault. */
    final class Parser {
        final String s;
        final int k;
        int at = 0;
        final List<Line> law = new ArrayList<>();
        final List<int[]> rows = new ArrayList<>();

        Parser(String s, int k) {
            this.s = s;
            this.k = k;
        }

        static boolean letter(char c) {
            return c < 128 && Character.isLetter(c);
        }

        static boolean digit(char c) {
            return c < 128 && Character.isDigit(c);
        }

        String peek() {
            while (at < s.length() && (s.charAt(at) == ' ' || s.charAt(at) == '\n')) {
                at++;
            }
            int end = at;
            while (end < s.length() && letter(s.charAt(end))) {
                end++;
            }
            while (end < s.length() && (end == at || digit(s.charAt(at))) && digit(s.charAt(end))) {
                end++;
            }
            return end > at ? s.substring(at, end) : at < s.length() ? s.substring(at, at + 1) : "";
        }

        String next() {
            String token = peek();
            at += token.length();
            return token;
        }

        void want(String token) throws Fault {
            if (!peek().equals(token)) {
                throw new Fault(1, at);
            }
            next();
        }

        int number(int limit) throws Fault {
            String token = peek();
            if (!token.matches("[0-9]{1,4}")) {
                throw new Fault(1, at);
            }
            int v = Integer.parseInt(token);
            if (v >= limit) {
                throw new Fault(2, at);
            }
            next();
            return v;
        }

        void parse() throws Fault {
            while (!peek().isEmpty()) {
                int start = at;
                String word = next();
                boolean fine = k == 0 ? List.of("palms", "far", "finds").contains(word)
                    : word.equals(k == 3 ? "person" : "at");
                if (!fine) {
                    throw new Fault(1, start);
                }
                if (law.size() + rows.size() == 16) {
                    throw new Fault(3, start);
                }
                switch (k) {
                    case 0 -> lawLine(word);
                    case 1 -> supper();
                    case 2 -> custom();
                    default -> child();
                }
                want(";");
            }
        }

        void supper() throws Fault {
            int[] row = new int[4];
            row[0] = number(1000);
            want("person");
            row[1] = number(w.people.size());
            want("puts");
            row[2] = number(w.things.size());
            want("in");
            row[3] = number(12);
            rows.add(row);
        }

        void custom() throws Fault {
            int hour = number(1000);
            int what = List.of("tie", "loose", "lock", "open", "search").indexOf(peek());
            if (what < 0) {
                throw new Fault(1, at);
            }
            next();
            int who = number(what == 2 || what == 3 ? 12 : w.people.size());
            rows.add(new int[] {hour, what, who, what == 4 ? number(12) : 0});
        }

        void child() throws Fault {
            peek();
            int start = at;
            int child = number(w.people.size());
            if (rows.stream().filter(row -> row[0] == child).count() == 2) {
                throw new Fault(2, start);
            }
            want("child");
            want("of");
            peek();
            start = at;
            int parent = number(w.people.size());
            if (parent == child) {
                throw new Fault(2, start);
            }
            rows.add(new int[] {child, parent});
        }

        void lawLine(String word) throws Fault {
            Node value = sum();
            Node when = null;
            if (peek().equals("when")) {
                next();
                when = any(0);
            }
            if (!peek().equals(";")) {
                throw new Fault(1, at);
            }
            law.add(new Line(word, value, when));
        }

        Node any(int open) throws Fault {
            Node left = all(open);
            while (peek().equals("or")) {
                next();
                Node a = left;
                Node b = all(open);
                left = facts -> Math.max(a.value(facts), b.value(facts));
            }
            return left;
        }

        Node all(int open) throws Fault {
            Node left = claim(open);
            while (peek().equals("and")) {
                next();
                Node a = left;
                Node b = claim(open);
                left = facts -> Math.min(a.value(facts), b.value(facts));
            }
            return left;
        }

        Node claim(int open) throws Fault {
            String token = peek();
            if (token.equals("not") || token.equals("(")) {
                if (open == 8) {
                    throw new Fault(3, at);
                }
                next();
                if (token.equals("(")) {
                    Node inner = any(open + 1);
                    want(")");
                    return inner;
                }
                Node inner = claim(open + 1);
                return facts -> inner.value(facts) == 1 ? 0 : 1;
            }
            Node a = sum();
            String sign = peek();
            if (!List.of("<", "=", ">").contains(sign)) {
                throw new Fault(1, at);
            }
            next();
            Node b = sum();
            int want = List.of("<", "=", ">").indexOf(sign) - 1;
            return facts -> Integer.compare(a.value(facts), b.value(facts)) == want ? 1 : 0;
        }

        Node sum() throws Fault {
            Node left = product();
            while (peek().equals("+") || peek().equals("-")) {
                int sign = next().equals("+") ? 1 : -1;
                Node a = left;
                Node b = product();
                left = facts -> a.value(facts) + sign * b.value(facts);
            }
            return left;
        }

        Node product() throws Fault {
            Node left = unit();
            while (peek().equals("*") || peek().equals("/")) {
                Node a = left;
                if (next().equals("*")) {
                    Node b = unit();
                    left = facts -> a.value(facts) * b.value(facts);
                } else {
                    peek();
                    int start = at;
                    int by = number(10000);
                    if (by == 0) {
                        throw new Fault(2, start);
                    }
                    left = facts -> a.value(facts) / by;
                }
            }
            return left;
        }

        Node unit() throws Fault {
            String token = peek();
            if (List.of("sleight", "wits", "size", "worth", "place", "full", "lock", "moved", "lost", "palmed", "hour")
                .contains(token)) {
                next();
                return facts -> facts.get(token);
            }
            int v = number(10000);
            return facts -> v;
        }
    }
}
