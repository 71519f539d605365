import java.util.Arrays;

/** A house in which what is put down lies somewhere else; ../shared/DOC.md tells what each call does. */
public final class SleightHouse {
    public static final int NONE = -1;

    private static final int PLACES = 12;
    private static final int THINGS = 16;
    private static final int PEOPLE = 12;
    private static final int ROOM_AT_FIRST = 9;
    private static final int ROOM_MOST = 99;
    private static final int SIZE_MOST = 9;
    private static final int WORTH_MOST = 999;
    private static final int SKILL_MOST = 9;
    private static final int HOUR_MOST = 9999;
    private static final int HOURS_AT_ONCE = 60;
    private static final int TOLD_HOURS = 1000;
    private static final int BOOK_LINES = 150;
    private static final int UNDOS = 6;
    private static final int TAPE = 400;
    private static final int FED = 20;
    private static final int LINES = 16;
    private static final int OPEN_MOST = 8;

    private static final int CUPS = 10;
    private static final int SWAPS = 16;
    private static final int PILES = 3;
    private static final int PICKS = 4;
    private static final int CARDS_MOST = 30;
    private static final int TURNS_MOST = 99;
    private static final int BOXES_MOST = 8;
    private static final int SIDE_MOST = 30;
    private static final int KEY_BOXES = 10;
    private static final int KEYS_MOST = 12;
    private static final int RING_MOST = 40;
    private static final int STEP_MOST = 20;
    private static final int NOT_TOLD = 2;
    private static final int COINS_MOST = 1000;
    private static final int BAR_MOST = 20;
    private static final int MOVES_MOST = 1000000;
    private static final int HATS_MOST = 12;
    private static final int GRID = 6;
    private static final int EDGES = 24;
    private static final int CLUES_MOST = 10;
    private static final int SEATS = 8;
    private static final int SHARES_MOST = 6;
    private static final int PARTS_MOST = 30;
    private static final int WILL_MOST = 9999;
    private static final int ROWS_MOST = 5;
    private static final int ROW_MOST = 30;

    private static final int TEXT_LAW = 0;
    private static final int TEXT_SUPPER = 1;
    private static final int TEXT_CUSTOMS = 2;
    private static final int TEXT_LINE = 3;

    private static final int DID_PUT = 0;
    private static final int DID_PALM = 1;
    private static final int DID_SEARCH = 2;
    private static final int DID_FIND = 3;
    private static final int DID_FALL = 4;

    private final House house = new House();
    private final Doings doings = new Doings(house);
    private final Past past = new Past();
    private final Reader reader = new Reader(house.stock);
    private final Moving dream = new Moving(true);
    private final Thought thought = new Thought(house.told);
    private final Kin kin = new Kin();
    private House kept = null;

    public SleightHouse() {
    }

    private static boolean within(int v, int low, int high) {
        return v >= low && v <= high;
    }

    public int state(int v) {
        int was = house.now.draws;
        house.now.draws = v;
        past.forget();
        return was;
    }

    public int thing(int size, int worth, int place) {
        if (!within(size, 1, SIZE_MOST) || !within(worth, 0, WORTH_MOST) || !house.hasPlace(place)) {
            return NONE;
        }
        int number = house.stock.addThing(size, worth);
        if (number != NONE) {
            house.now.startThing(number, place);
            past.forget();
        }
        return number;
    }

    public int person(int sleight, int wits) {
        if (!within(sleight, 0, SKILL_MOST) || !within(wits, 0, SKILL_MOST)) {
            return NONE;
        }
        int number = house.stock.addPerson(sleight, wits);
        if (number != NONE) {
            house.now.startPerson(number);
            past.forget();
        }
        return number;
    }

    public boolean set(int what, int who, int v) {
        boolean told = change(what, who, v);
        if (told) {
            past.forget();
        }
        return told;
    }

    private boolean change(int what, int who, int v) {
        Stock stock = house.stock;
        switch (what) {
            case 0:
                return house.hasPlace(who) && changeCell(stock.room, who, v, 0, ROOM_MOST);
            case 1:
                return house.hasThing(who) && changeCell(stock.size, who, v, 1, SIZE_MOST);
            case 2:
                return house.hasThing(who) && changeCell(stock.worth, who, v, 0, WORTH_MOST);
            case 3:
                return house.hasThing(who) && changeLost(who, v);
            case 4:
                return house.hasPerson(who) && changeCell(stock.sleight, who, v, 0, SKILL_MOST);
            case 5:
                return house.hasPerson(who) && changeCell(stock.wits, who, v, 0, SKILL_MOST);
            default:
                return false;
        }
    }

    private static boolean changeCell(int[] row, int who, int v, int low, int high) {
        if (who < 0 || who >= row.length || !within(v, low, high)) {
            return false;
        }
        row[who] = v;
        return true;
    }

    private boolean changeLost(int who, int v) {
        if (!within(v, 0, 1)) {
            return false;
        }
        house.now.lost = Moving.withBit(house.now.lost, who, v == 1);
        return true;
    }

    public int puts(int person, int thing, int place) {
        if (!doings.canPut(house.now, person, thing, place)) {
            return NONE;
        }
        past.keep(house.now);
        doings.putDown(house.now, person, thing, place);
        return house.now.in[thing];
    }

    public int search(int person, int place) {
        if (!doings.canSearch(house.now, person, place)) {
            return NONE;
        }
        past.keep(house.now);
        return doings.searchPlace(house.now, person, place);
    }

    public boolean act(int what, int who) {
        Moving now = house.now;
        boolean ofPerson = what == 0 || what == 1;
        boolean ofPlace = what == 2 || what == 3;
        if (!(ofPerson && house.hasPerson(who)) && !(ofPlace && house.hasPlace(who))) {
            return false;
        }
        boolean on = what == 0 || what == 2;
        if (Moving.hasBit(ofPerson ? now.tied : now.locked, who) == on) {
            return false;
        }
        past.keep(now);
        if (ofPerson) {
            now.tied = Moving.withBit(now.tied, who, on);
        } else {
            now.locked = Moving.withBit(now.locked, who, on);
        }
        return true;
    }

    public int hours(int n) {
        if (!within(n, 1, HOURS_AT_ONCE) || house.now.hour + n > HOUR_MOST) {
            return NONE;
        }
        int palmed = 0;
        for (int i = 0; i < n; i++) {
            past.keep(house.now);
            palmed += doings.passHour(house.now);
        }
        return palmed;
    }

    public int feed(int a, int b, int c, int d, int e) {
        if (reader.length + FED > TAPE) {
            return NONE;
        }
        reader.append(a);
        reader.append(b);
        reader.append(c);
        reader.append(d);
        reader.append(e);
        return reader.length;
    }

    public boolean end(int n) {
        if (n < 0 || n > reader.length) {
            return false;
        }
        reader.length = n;
        return true;
    }

    public int text(int k) {
        if (!reader.read(k)) {
            return NONE;
        }
        if (k == TEXT_LAW) {
            house.law.copyFrom(reader.law);
            return house.law.lines;
        }
        Rows rows = house.linesOf(k);
        rows.copyFrom(reader.rows);
        if (k != TEXT_LINE) {
            past.forget();
        }
        return rows.count;
    }

    public int fault(int what) {
        if (what == 0) {
            return reader.fault;
        }
        return what == 1 ? reader.faultPlace : NONE;
    }

    public int place(int place, int what) {
        if (!house.hasPlace(place)) {
            return NONE;
        }
        switch (what) {
            case 0:
                return house.stock.room[place];
            case 1:
                return Moving.bit(house.now.locked, place);
            case 2:
                return house.now.searched[place];
            case 3:
                return doings.fullOf(house.now, place);
            case 4:
                return doings.thingsIn(house.now, place);
            default:
                return NONE;
        }
    }

    public int of(int thing, int what) {
        if (!house.hasThing(thing)) {
            return NONE;
        }
        switch (what) {
            case 0:
                return house.stock.size[thing];
            case 1:
                return house.stock.worth[thing];
            case 2:
                return house.now.in[thing];
            case 3:
                return house.now.moved[thing];
            case 4:
                return Moving.bit(house.now.lost, thing);
            default:
                return NONE;
        }
    }

    public int who(int person, int what) {
        if (!house.hasPerson(person)) {
            return NONE;
        }
        switch (what) {
            case 0:
                return house.stock.sleight[person];
            case 1:
                return house.stock.wits[person];
            case 2:
                return Moving.bit(house.now.tied, person);
            case 3:
                return house.now.palmed[person];
            case 4:
                return house.parentsOf(person);
            default:
                return NONE;
        }
    }

    public int tells(int person, int thing, int place, int what) {
        if (!house.hasPerson(person) || !house.hasThing(thing) || !house.hasPlace(place)
                || !within(what, Law.PALMS, Law.FINDS)) {
            return NONE;
        }
        return doings.asked(house.now, what, person, thing, place);
    }

    public int book(int i, int what) {
        return i < house.now.lines ? house.book.cell(i, what) : NONE;
    }

    public int goes(int n, int what) {
        if (!within(n, 1, HOURS_AT_ONCE) || !within(what, 0, 3)) {
            return NONE;
        }
        dream.copyFrom(house.now);
        for (int i = 0; i < n; i++) {
            doings.passHour(dream);
        }
        switch (what) {
            case 0:
                return dream.found;
            case 1:
                return Integer.bitCount(dream.lost);
            case 2:
                return Moving.sum(dream.palmed);
            default:
                return Moving.sum(dream.searched);
        }
    }

    public int where(int person, int thing, int place) {
        if (!doings.canPut(house.now, person, thing, place)) {
            return NONE;
        }
        dream.copyFrom(house.now);
        doings.putDown(dream, person, thing, place);
        return dream.in[thing];
    }

    public int brings(int person, int place) {
        if (!doings.canSearch(house.now, person, place)) {
            return NONE;
        }
        dream.copyFrom(house.now);
        return doings.searchPlace(dream, person, place);
    }

    public int swap(int a, int b) {
        if (a == NONE) {
            return house.told.swaps.clear();
        }
        if (!within(a, 0, CUPS - 1) || !within(b, 0, CUPS - 1) || a == b) {
            return NONE;
        }
        return house.told.swaps.add(a, b, 0, 0);
    }

    public int under(int c) {
        if (c == NONE) {
            return thought.leastSwaps();
        }
        if (c == NONE - 1) {
            return house.told.swaps.count % 2 == 0 ? 1 : 0;
        }
        return within(c, 0, CUPS - 1) ? thought.cupBehind(c) : NONE;
    }

    public int pick(int pile) {
        if (pile == NONE) {
            return house.told.picks.clear();
        }
        return within(pile, 0, PILES - 1) ? house.told.picks.add(pile, 0, 0, 0) : NONE;
    }

    public int card(int n, int c) {
        if (!within(n, PILES, CARDS_MOST) || n % PILES != 0) {
            return NONE;
        }
        if (c == NONE) {
            return thought.turnsTillSame(n);
        }
        return within(c, 0, n - 1) ? thought.cardBehind(n, c) : NONE;
    }

    public int box(int far, int broad) {
        if (far == NONE) {
            return house.told.boxes.clear();
        }
        if (!within(far, 1, SIDE_MOST) || !within(broad, 1, SIDE_MOST)) {
            return NONE;
        }
        return house.told.boxes.add(Math.min(far, broad), Math.max(far, broad), 0, 0);
    }

    public int boxes(int what) {
        return within(what, 0, 1) ? thought.nested(what == 1) : NONE;
    }

    public int key(int a, int b) {
        if (a == NONE) {
            return house.told.keys.clear();
        }
        if (!within(a, 0, KEY_BOXES - 1) || !within(b, 0, KEY_BOXES - 1)) {
            return NONE;
        }
        return house.told.keys.add(a, b, 0, 0);
    }

    public int opened(int open) {
        if (open == NONE) {
            return thought.fewestForced();
        }
        return within(open, 0, (1 << KEY_BOXES) - 1) ? thought.openedFrom(open) : NONE;
    }

    public int ring(int n, int k, int who) {
        if (!within(n, 1, RING_MOST) || !within(k, 1, STEP_MOST)) {
            return NONE;
        }
        if (who == NONE) {
            return Thought.lastInRing(n, k);
        }
        return within(who, 0, n - 1) ? Thought.outOfRing(n, k, who) : NONE;
    }

    public boolean gift(int person, int v) {
        return changeCell(house.told.gifts, person, v, 0, NOT_TOLD);
    }

    public int heir(int person) {
        if (person != NONE && !house.hasPerson(person)) {
            return NONE;
        }
        kin.gather(house.stock.people, house.line, house.told.gifts);
        return person == NONE ? kin.ways() : kin.fewAndMany(person);
    }

    public int weighings(int n, int what) {
        if (!within(what, 0, 1) || !within(n, 2 + what, COINS_MOST)) {
            return NONE;
        }
        return Thought.weighed(n, what == 1);
    }

    public int rings(int n, int m) {
        if (!within(n, 1, BAR_MOST) || !within(m, NONE, MOVES_MOST)) {
            return NONE;
        }
        int fewest = Thought.movesOff(n);
        if (m == NONE) {
            return fewest;
        }
        int left = fewest - m;
        return left < 0 ? NONE : left ^ (left >> 1);
    }

    public int hats(int n, int k) {
        if (!within(n, 1, HATS_MOST) || !within(k, 0, n)) {
            return NONE;
        }
        return Thought.choices(n, k) * Thought.allWrong(n - k);
    }

    public boolean mirror(int place, int v) {
        return changeCell(house.told.mirrors, place, v, 0, 2);
    }

    public int glance(int edge, int what) {
        if (!within(edge, 0, EDGES - 1) || !within(what, 0, 1)) {
            return NONE;
        }
        return thought.glanced(edge, what == 1);
    }

    public int clue(int thing, int place, boolean is) {
        if (thing == NONE) {
            return house.told.clues.clear();
        }
        if (!within(thing, 0, SEATS - 1) || !within(place, 0, SEATS - 1)) {
            return NONE;
        }
        return house.told.clues.add(thing, place, is ? 1 : 0, 0);
    }

    public int fits(int thing) {
        if (thing == NONE) {
            return thought.waysToFit(NONE, 0);
        }
        return within(thing, 0, SEATS - 1) ? thought.surePlace(thing) : NONE;
    }

    public int share(int parts) {
        if (parts == NONE) {
            return house.told.shares.clear();
        }
        return within(parts, 1, PARTS_MOST) ? house.told.shares.add(parts, 0, 0, 0) : NONE;
    }

    public int gets(int w, int i) {
        if (!within(w, 0, WILL_MOST) || !within(i, 0, house.told.shares.count - 1)) {
            return NONE;
        }
        return thought.inherited(w, i);
    }

    public int row(int cups) {
        if (cups == NONE) {
            return house.told.rows.clear();
        }
        return within(cups, 0, ROW_MOST) ? house.told.rows.add(cups, 0, 0, 0) : NONE;
    }

    public int game(int what) {
        return within(what, 0, 1) ? thought.goodMove(what == 1) : NONE;
    }

    public boolean undo() {
        return past.goBack(house.now);
    }

    public boolean image(boolean taken) {
        if (taken) {
            if (kept == null) {
                kept = new House();
            }
            kept.copyFrom(house);
            return true;
        }
        if (kept == null) {
            return false;
        }
        house.copyFrom(kept);
        past.forget();
        return true;
    }

    public int look(int what) {
        switch (what) {
            case 0:
                return house.stock.things;
            case 1:
                return house.stock.people;
            case 2:
                return house.now.found;
            case 3:
                return house.now.lost;
            case 4:
                return house.now.locked;
            case 5:
                return house.now.hour;
            case 6:
                return house.now.lines;
            case 7:
                return house.now.draws;
            case 8:
                return house.law.lines;
            case 9:
                return house.supper.count;
            case 10:
                return house.customs.count;
            case 11:
                return house.line.count;
            case 12:
                return past.count;
            default:
                return NONE;
        }
    }

    /** A table with room for so many lines of up to four numbers, made once and filled again and again. */
    private static final class Rows {
        private final int[] cells;
        private final int width;
        private final int most;
        int count = 0;

        Rows(int most, int width) {
            this.most = Math.max(most, 0);
            this.width = Math.min(Math.max(width, 1), 4);
            this.cells = new int[this.most * this.width];
        }

        int clear() {
            count = 0;
            return 0;
        }

        /** How many there are with it; NONE if it is full. */
        int add(int a, int b, int c, int d) {
            if (count >= most) {
                return NONE;
            }
            write(count, a, b, c, d);
            count++;
            return count;
        }

        void write(int i, int a, int b, int c, int d) {
            if (i < 0 || i >= most) {
                return;
            }
            int from = i * width;
            cells[from] = a;
            if (width > 1) {
                cells[from + 1] = b;
            }
            if (width > 2) {
                cells[from + 2] = c;
            }
            if (width > 3) {
                cells[from + 3] = d;
            }
        }

        int cell(int i, int column) {
            if (i < 0 || i >= most || column < 0 || column >= width) {
                return NONE;
            }
            return cells[i * width + column];
        }

        void copyFrom(Rows other) {
            int length = Math.min(cells.length, other.cells.length);
            System.arraycopy(other.cells, 0, cells, 0, length);
            count = other.count;
        }
    }

    /** What only telling changes: apart from what hours change, so that UNDO keeps little. */
    private static final class Stock {
        final int[] room = new int[PLACES];
        final int[] size = new int[THINGS];
        final int[] worth = new int[THINGS];
        final int[] sleight = new int[PEOPLE];
        final int[] wits = new int[PEOPLE];
        int things = 0;
        int people = 0;

        Stock() {
            Arrays.fill(room, ROOM_AT_FIRST);
        }

        int addThing(int newSize, int newWorth) {
            if (things >= THINGS) {
                return NONE;
            }
            size[things] = newSize;
            worth[things] = newWorth;
            things++;
            return things - 1;
        }

        int addPerson(int newSleight, int newWits) {
            if (people >= PEOPLE) {
                return NONE;
            }
            sleight[people] = newSleight;
            wits[people] = newWits;
            people++;
            return people - 1;
        }

        void copyFrom(Stock other) {
            System.arraycopy(other.room, 0, room, 0, PLACES);
            System.arraycopy(other.size, 0, size, 0, THINGS);
            System.arraycopy(other.worth, 0, worth, 0, THINGS);
            System.arraycopy(other.sleight, 0, sleight, 0, PEOPLE);
            System.arraycopy(other.wits, 0, wits, 0, PEOPLE);
            things = other.things;
            people = other.people;
        }
    }

    /** What hours and hands change: all that UNDO takes back, and all that thought must copy. */
    private static final class Moving {
        final boolean inThought;
        final int[] in = new int[THINGS];
        final int[] moved = new int[THINGS];
        final int[] palmed = new int[PEOPLE];
        final int[] searched = new int[PLACES];
        int lost = 0;
        int tied = 0;
        int locked = 0;
        int found = 0;
        int hour = 0;
        int draws = 0;
        int lines = 0;

        Moving(boolean inThought) {
            this.inThought = inThought;
        }

        static boolean hasBit(int set, int i) {
            return bit(set, i) == 1;
        }

        static int bit(int set, int i) {
            return (set >> i) & 1;
        }

        static int withBit(int set, int i, boolean on) {
            return on ? set | (1 << i) : set & ~(1 << i);
        }

        static int sum(int[] row) {
            int all = 0;
            for (int i = 0; i < row.length; i++) {
                all += row[i];
            }
            return all;
        }

        void startThing(int thing, int place) {
            if (thing >= 0 && thing < THINGS) {
                in[thing] = place;
                moved[thing] = 0;
                lost = withBit(lost, thing, false);
            }
        }

        void startPerson(int person) {
            if (person >= 0 && person < PEOPLE) {
                palmed[person] = 0;
                tied = withBit(tied, person, false);
            }
        }

        void copyFrom(Moving other) {
            System.arraycopy(other.in, 0, in, 0, THINGS);
            System.arraycopy(other.moved, 0, moved, 0, THINGS);
            System.arraycopy(other.palmed, 0, palmed, 0, PEOPLE);
            System.arraycopy(other.searched, 0, searched, 0, PLACES);
            lost = other.lost;
            tied = other.tied;
            locked = other.locked;
            found = other.found;
            hour = other.hour;
            draws = other.draws;
            lines = other.lines;
        }
    }

    /** What is told for thought alone. */
    private static final class Told {
        final Rows swaps = new Rows(SWAPS, 2);
        final Rows picks = new Rows(PICKS, 1);
        final Rows boxes = new Rows(BOXES_MOST, 2);
        final Rows keys = new Rows(KEYS_MOST, 2);
        final Rows clues = new Rows(CLUES_MOST, 3);
        final Rows shares = new Rows(SHARES_MOST, 1);
        final Rows rows = new Rows(ROWS_MOST, 1);
        final int[] gifts = new int[PEOPLE];
        final int[] mirrors = new int[GRID * GRID];

        Told() {
            Arrays.fill(gifts, NOT_TOLD);
        }

        void copyFrom(Told other) {
            swaps.copyFrom(other.swaps);
            picks.copyFrom(other.picks);
            boxes.copyFrom(other.boxes);
            keys.copyFrom(other.keys);
            clues.copyFrom(other.clues);
            shares.copyFrom(other.shares);
            rows.copyFrom(other.rows);
            System.arraycopy(other.gifts, 0, gifts, 0, PEOPLE);
            System.arraycopy(other.mirrors, 0, mirrors, 0, GRID * GRID);
        }
    }

    /** All that THE IMAGE holds. */
    private static final class House {
        final Stock stock = new Stock();
        final Moving now = new Moving(false);
        final Rows book = new Rows(BOOK_LINES, 4);
        final Law law = new Law();
        final Rows supper = new Rows(LINES, 4);
        final Rows customs = new Rows(LINES, 4);
        final Rows line = new Rows(LINES, 4);
        final Told told = new Told();

        boolean hasPlace(int place) {
            return place >= 0 && place < PLACES;
        }

        boolean hasThing(int thing) {
            return thing >= 0 && thing < stock.things;
        }

        boolean hasPerson(int person) {
            return person >= 0 && person < stock.people;
        }

        Rows linesOf(int text) {
            if (text == TEXT_SUPPER) {
                return supper;
            }
            return text == TEXT_CUSTOMS ? customs : line;
        }

        int parentsOf(int person) {
            int parents = 0;
            for (int i = 0; i < line.count; i++) {
                if (line.cell(i, 0) == person) {
                    parents = Moving.withBit(parents, line.cell(i, 1), true);
                }
            }
            return parents;
        }

        void copyFrom(House other) {
            stock.copyFrom(other.stock);
            now.copyFrom(other.now);
            book.copyFrom(other.book);
            law.copyFrom(other.law);
            supper.copyFrom(other.supper);
            customs.copyFrom(other.customs);
            line.copyFrom(other.line);
            told.copyFrom(other.told);
        }
    }

    /** What can be undone: a ring of copies, so that the oldest one gives way. */
    private static final class Past {
        private final Moving[] copies = new Moving[UNDOS];
        private int next = 0;
        int count = 0;

        Past() {
            for (int i = 0; i < UNDOS; i++) {
                copies[i] = new Moving(false);
            }
        }

        void keep(Moving now) {
            copies[next].copyFrom(now);
            next = (next + 1) % UNDOS;
            count = Math.min(count + 1, UNDOS);
        }

        boolean goBack(Moving now) {
            if (count == 0) {
                return false;
            }
            next = (next + UNDOS - 1) % UNDOS;
            count--;
            now.copyFrom(copies[next]);
            return true;
        }

        void forget() {
            count = 0;
        }
    }

    /** THE LAW, as code for a machine with a stack: each part comes behind what it works on. */
    private static final class Law {
        static final int PALMS = 0;
        static final int FAR = 1;
        static final int FINDS = 2;

        static final int NUMBER = 0;
        static final int FACT = 1;
        static final int PART = 2;
        static final int NOT = 3;
        static final int ADD = 4;
        static final int TAKE = 5;
        static final int TIMES = 6;
        static final int LESS = 7;
        static final int SAME = 8;
        static final int MORE = 9;
        static final int AND = 10;
        static final int OR = 11;

        /** Above two waiting values for each of eight open brackets and those of one comparison. */
        static final int STACK = 48;
        static final int FACTS = 11;

        private final int[] code = new int[TAPE];
        private final int[] words = new int[LINES];
        private final int[] from = new int[LINES];
        private final int[] when = new int[LINES];
        private final int[] till = new int[LINES];
        private int used = 0;
        int lines = 0;

        void clear() {
            used = 0;
            lines = 0;
        }

        void begin(int word) {
            if (lines < LINES) {
                words[lines] = word;
                from[lines] = used;
            }
        }

        void beginWhen() {
            if (lines < LINES) {
                when[lines] = used;
            }
        }

        void finish() {
            if (lines < LINES) {
                till[lines] = used;
                lines++;
            }
        }

        void emit(int what, int number) {
            if (used < TAPE) {
                code[used] = (number << 4) | what;
                used++;
            }
        }

        /** The first line with that word that holds; NONE if there is none. */
        int lineFor(int word, int[] facts, int[] stack) {
            for (int i = 0; i < lines; i++) {
                if (words[i] == word && (when[i] == till[i] || run(when[i], till[i], facts, stack) != 0)) {
                    return i;
                }
            }
            return NONE;
        }

        int valueOf(int line, int[] facts, int[] stack) {
            if (line < 0 || line >= lines) {
                return 0;
            }
            return run(from[line], when[line], facts, stack);
        }

        private int run(int first, int end, int[] facts, int[] stack) {
            int top = 0;
            for (int i = Math.max(first, 0); i < end && i < TAPE; i++) {
                int what = code[i] & 15;
                int number = code[i] >> 4;
                if (what <= FACT) {
                    if (top < stack.length) {
                        stack[top] = what == NUMBER ? number : factOf(facts, number);
                        top++;
                    }
                } else if (what <= NOT) {
                    if (top >= 1 && top <= stack.length) {
                        stack[top - 1] = ofOne(what, stack[top - 1], number);
                    }
                } else if (top >= 2 && top <= stack.length) {
                    top--;
                    stack[top - 1] = ofTwo(what, stack[top - 1], stack[top]);
                }
            }
            return top == 1 && stack.length > 0 ? stack[0] : 0;
        }

        private static int factOf(int[] facts, int number) {
            return number >= 0 && number < facts.length ? facts[number] : 0;
        }

        private static int ofOne(int what, int a, int number) {
            if (what == NOT) {
                return 1 - a;
            }
            return number == 0 ? 0 : a / number;
        }

        private static int ofTwo(int what, int a, int b) {
            switch (what) {
                case ADD:
                    return a + b;
                case TAKE:
                    return a - b;
                case TIMES:
                    return a * b;
                case LESS:
                    return a < b ? 1 : 0;
                case SAME:
                    return a == b ? 1 : 0;
                case MORE:
                    return a > b ? 1 : 0;
                case AND:
                    return a & b;
                default:
                    return a | b;
            }
        }

        void copyFrom(Law other) {
            System.arraycopy(other.code, 0, code, 0, TAPE);
            System.arraycopy(other.words, 0, words, 0, LINES);
            System.arraycopy(other.from, 0, from, 0, LINES);
            System.arraycopy(other.when, 0, when, 0, LINES);
            System.arraycopy(other.till, 0, till, 0, LINES);
            used = other.used;
            lines = other.lines;
        }
    }

    /** What people do in the house, in earnest or, on a Moving that is in thought, without draws and book. */
    private static final class Doings {
        private static final int CHANCES = 1000;
        private static final int LIKELY_IN_THOUGHT = 500;
        private static final int FAR_MOST = 99;

        static final int TIE = 0;
        static final int LOOSE = 1;
        static final int LOCK = 2;
        static final int OPEN = 3;
        static final int SEARCH = 4;

        private final House house;
        private final int[] facts = new int[Law.FACTS];
        private final int[] stack = new int[Law.STACK];

        Doings(House house) {
            this.house = house;
        }

        int fullOf(Moving m, int place) {
            int full = 0;
            for (int i = 0; i < house.stock.things; i++) {
                if (m.in[i] == place) {
                    full += house.stock.size[i];
                }
            }
            return full;
        }

        int thingsIn(Moving m, int place) {
            int set = 0;
            for (int i = 0; i < house.stock.things; i++) {
                if (m.in[i] == place) {
                    set = Moving.withBit(set, i, true);
                }
            }
            return set;
        }

        int asked(Moving m, int word, int person, int thing, int place) {
            gatherFacts(m, person, thing, place);
            int line = house.law.lineFor(word, facts, stack);
            int told = line == NONE ? withoutLaw(word) : house.law.valueOf(line, facts, stack);
            int most = word == Law.FAR ? FAR_MOST : CHANCES;
            return Math.max(0, Math.min(told, most));
        }

        private void gatherFacts(Moving m, int person, int thing, int place) {
            facts[0] = house.stock.sleight[person];
            facts[1] = house.stock.wits[person];
            facts[2] = house.stock.size[thing];
            facts[3] = house.stock.worth[thing];
            facts[4] = place;
            facts[5] = fullOf(m, place);
            facts[6] = Moving.bit(m.locked, place);
            facts[7] = m.moved[thing];
            facts[8] = Moving.bit(m.lost, thing);
            facts[9] = m.palmed[person];
            facts[10] = m.hour;
        }

        private int withoutLaw(int word) {
            if (word == Law.PALMS) {
                return 80 * facts[0] - 20 * facts[2];
            }
            return word == Law.FAR ? 1 + facts[0] : 500 + 50 * facts[1];
        }

        private boolean comesToPass(Moving m, int likely) {
            if (m.inThought) {
                return likely >= LIKELY_IN_THOUGHT;
            }
            m.draws = m.draws * 1664525 + 1013904223;
            return (m.draws >>> 8) % CHANCES < likely;
        }

        private void note(Moving m, int what, int which, int much) {
            if (!m.inThought && m.lines < BOOK_LINES) {
                house.book.write(m.lines, m.hour, what, which, much);
                m.lines++;
            }
        }

        boolean canPut(Moving m, int person, int thing, int place) {
            if (!house.hasPerson(person) || !house.hasThing(thing) || !house.hasPlace(place)) {
                return false;
            }
            if (Moving.hasBit(m.tied, person) || Moving.hasBit(m.locked, place)
                    || Moving.hasBit(m.locked, m.in[thing])) {
                return false;
            }
            return hasRoom(m, thing, place);
        }

        /** As if the thing were taken out ahead. */
        private boolean hasRoom(Moving m, int thing, int place) {
            int full = fullOf(m, place);
            if (m.in[thing] != place) {
                full += house.stock.size[thing];
            }
            return full <= house.stock.room[place];
        }

        /** Only behind canPut: whether it was palmed. */
        boolean putDown(Moving m, int person, int thing, int place) {
            m.in[thing] = place;
            m.moved[thing]++;
            m.lost = Moving.withBit(m.lost, thing, false);
            note(m, DID_PUT, thing, place);
            int likely = asked(m, Law.PALMS, person, thing, place);
            if (likely <= 0 || !comesToPass(m, likely)) {
                return false;
            }
            m.in[thing] = sleeve(m, thing, place, asked(m, Law.FAR, person, thing, place));
            m.moved[thing]++;
            m.palmed[person]++;
            m.lost = Moving.withBit(m.lost, thing, true);
            note(m, DID_PALM, thing, person);
            return true;
        }

        /** Where a thing palmed at that place goes; the place itself is the last choice, and has room. */
        private int sleeve(Moving m, int thing, int place, int far) {
            for (int i = 0; i < PLACES; i++) {
                int other = (place + far + i) % PLACES;
                if (other != place && hasRoom(m, thing, other)) {
                    return other;
                }
            }
            return place;
        }

        boolean canSearch(Moving m, int person, int place) {
            return house.hasPerson(person) && house.hasPlace(place) && !Moving.hasBit(m.tied, person);
        }

        /** Only behind canSearch: how many are found. */
        int searchPlace(Moving m, int person, int place) {
            m.searched[place]++;
            note(m, DID_SEARCH, place, person);
            if (Moving.hasBit(m.locked, place)) {
                return 0;
            }
            int found = 0;
            for (int i = 0; i < house.stock.things; i++) {
                if (m.in[i] == place && Moving.hasBit(m.lost, i)
                        && comesToPass(m, asked(m, Law.FINDS, person, i, place))) {
                    m.lost = Moving.withBit(m.lost, i, false);
                    m.found++;
                    found++;
                    note(m, DID_FIND, i, person);
                }
            }
            return found;
        }

        /** How many were palmed in it. */
        int passHour(Moving m) {
            for (int i = 0; i < house.customs.count; i++) {
                if (house.customs.cell(i, 0) == m.hour) {
                    keepCustom(m, house.customs.cell(i, 1), house.customs.cell(i, 2), house.customs.cell(i, 3));
                }
            }
            int palmed = 0;
            for (int i = 0; i < house.supper.count; i++) {
                if (house.supper.cell(i, 0) == m.hour
                        && serve(m, house.supper.cell(i, 1), house.supper.cell(i, 2), house.supper.cell(i, 3))) {
                    palmed++;
                }
            }
            for (int i = 0; i < PLACES; i++) {
                spill(m, i);
            }
            m.hour++;
            return palmed;
        }

        private void keepCustom(Moving m, int what, int who, int place) {
            switch (what) {
                case TIE:
                case LOOSE:
                    m.tied = Moving.withBit(m.tied, who, what == TIE);
                    break;
                case LOCK:
                case OPEN:
                    m.locked = Moving.withBit(m.locked, who, what == LOCK);
                    break;
                default:
                    if (canSearch(m, who, place)) {
                        searchPlace(m, who, place);
                    }
                    break;
            }
        }

        private boolean serve(Moving m, int person, int thing, int place) {
            return canPut(m, person, thing, place) && putDown(m, person, thing, place);
        }

        private void spill(Moving m, int place) {
            int full = fullOf(m, place);
            for (int i = house.stock.things - 1; i >= 0 && full > house.stock.room[place]; i--) {
                if (m.in[i] == place) {
                    full -= house.stock.size[i];
                    m.in[i] = (place + 1) % PLACES;
                    m.lost = Moving.withBit(m.lost, i, true);
                    note(m, DID_FALL, i, m.in[i]);
                }
            }
        }
    }

    /** The TAPE, and what reads a text from it: into drafts of its own, so that a FAULT leaves all as it was. */
    private static final class Reader {
        private static final int END = 0;
        private static final int BAD = 1;
        private static final int NUMBER = 2;
        private static final int FIRST_WORD = 128;
        private static final int DIGITS_MOST = 4;

        private static final int BLANK = 0;
        private static final int LETTER = 1;
        private static final int DIGIT = 2;
        private static final int SIGN = 3;

        private static final String SIGNS = ";+-*/()<=>";
        private static final String WORDS =
            "palms far finds sleight wits size worth place full lock moved lost palmed hour when or and not at person puts in tie loose open search child of ";
        private static final int PALMS = 128;
        private static final int FINDS = 130;
        private static final int SLEIGHT = 131;
        private static final int LOCK = 137;
        private static final int HOUR = 141;
        private static final int WHEN = 142;
        private static final int OR = 143;
        private static final int AND = 144;
        private static final int NOT = 145;
        private static final int AT = 146;
        private static final int PERSON = 147;
        private static final int PUTS = 148;
        private static final int IN = 149;
        private static final int TIE = 150;
        private static final int LOOSE = 151;
        private static final int OPEN = 152;
        private static final int SEARCH = 153;
        private static final int CHILD = 154;
        private static final int OF = 155;

        private static final int CANT_STAND = 1;
        private static final int CANT_BE = 2;
        private static final int TOO_MANY = 3;

        private final Stock stock;
        private final byte[] tape = new byte[TAPE];
        private final int[] kinds = new int[TAPE + 1];
        private final int[] values = new int[TAPE + 1];
        private final int[] places = new int[TAPE + 1];
        private int tokens = 0;
        private int cursor = 0;
        final Law law = new Law();
        final Rows rows = new Rows(LINES, 4);
        int length = 0;
        int fault = 0;
        int faultPlace = NONE;

        Reader(Stock stock) {
            this.stock = stock;
        }

        void append(int number) {
            for (int shift = 24; shift >= 0 && length < TAPE; shift -= 8) {
                tape[length] = (byte) (number >>> shift);
                length++;
            }
        }

        /** Whether the TAPE, empty then, is such a text: it stands in law or rows. */
        boolean read(int text) {
            fault = 0;
            faultPlace = NONE;
            int whole = length;
            length = 0;
            if (text < TEXT_LAW || text > TEXT_LINE) {
                return false;
            }
            cut(whole);
            law.clear();
            rows.clear();
            for (int i = 0; i <= LINES && kinds[cursor] != END; i++) {
                if (!canBegin(text)) {
                    return blame(CANT_STAND);
                }
                if (i == LINES) {
                    return blame(TOO_MANY);
                }
                boolean fine;
                switch (text) {
                    case TEXT_LAW:
                        fine = lawLine();
                        break;
                    case TEXT_SUPPER:
                        fine = supperLine();
                        break;
                    case TEXT_CUSTOMS:
                        fine = customLine();
                        break;
                    default:
                        fine = childLine();
                        break;
                }
                if (!fine) {
                    return false;
                }
            }
            return true;
        }

        /** Cuts the text into tokens, the end being the last one. */
        private void cut(int till) {
            tokens = 0;
            cursor = 0;
            int before = BLANK;
            for (int at = 0; at < till && at < TAPE; at++) {
                int group = groupOf(tape[at] & 255);
                if (group == SIGN) {
                    int sign = tape[at] & 255;
                    addToken(SIGNS.indexOf((char) sign) >= 0 ? sign : BAD, 0, at);
                } else if (group == LETTER && before != LETTER) {
                    addToken(wordKind(at, groupEnd(at, till)), 0, at);
                } else if (group == DIGIT && before != DIGIT) {
                    int end = groupEnd(at, till);
                    addToken(end - at > DIGITS_MOST ? BAD : NUMBER, numberOf(at, end), at);
                }
                before = group;
            }
            addToken(END, 0, till);
        }

        private void addToken(int kind, int value, int place) {
            if (tokens <= TAPE) {
                kinds[tokens] = kind;
                values[tokens] = value;
                places[tokens] = place;
                tokens++;
            }
        }

        private static int groupOf(int sign) {
            if (sign >= 'a' && sign <= 'z' || sign >= 'A' && sign <= 'Z') {
                return LETTER;
            }
            if (sign >= '0' && sign <= '9') {
                return DIGIT;
            }
            return sign == 32 || sign == 10 ? BLANK : SIGN;
        }

        private int groupEnd(int from, int till) {
            int group = groupOf(tape[from] & 255);
            int end = from + 1;
            while (end < till && end < TAPE && groupOf(tape[end] & 255) == group) {
                end++;
            }
            return end;
        }

        private int numberOf(int from, int till) {
            int number = 0;
            for (int i = from; i < till && i < from + DIGITS_MOST; i++) {
                number = number * 10 + tape[i] - '0';
            }
            return number;
        }

        private int wordKind(int from, int till) {
            int kind = FIRST_WORD;
            int start = 0;
            for (int i = 0; i < WORDS.length(); i++) {
                if (WORDS.charAt(i) == ' ') {
                    if (i - start == till - from && isWord(start, i, from)) {
                        return kind;
                    }
                    kind++;
                    start = i + 1;
                }
            }
            return BAD;
        }

        private boolean isWord(int start, int end, int from) {
            for (int i = start; i < end; i++) {
                if (WORDS.charAt(i) != (tape[from + i - start] & 255)) {
                    return false;
                }
            }
            return true;
        }

        private boolean blame(int what) {
            fault = what;
            faultPlace = places[cursor];
            return false;
        }

        /** The end stays where it is: nothing can be behind it. */
        private void step() {
            if (cursor < tokens - 1) {
                cursor++;
            }
        }

        private boolean expect(int wanted) {
            if (kinds[cursor] != wanted) {
                return blame(CANT_STAND);
            }
            step();
            return true;
        }

        /** The NUMBER that stands here; NONE, with a FAULT, if it is none below the limit. */
        private int numberBelow(int limit) {
            if (kinds[cursor] != NUMBER) {
                blame(CANT_STAND);
                return NONE;
            }
            int number = values[cursor];
            if (number >= limit) {
                blame(CANT_BE);
                return NONE;
            }
            step();
            return number;
        }

        private boolean canBegin(int text) {
            int kind = kinds[cursor];
            if (text == TEXT_LAW) {
                return kind >= PALMS && kind <= FINDS;
            }
            return kind == (text == TEXT_LINE ? PERSON : AT);
        }

        private boolean supperLine() {
            step();
            int hour = numberBelow(TOLD_HOURS);
            if (hour == NONE || !expect(PERSON)) {
                return false;
            }
            int person = numberBelow(stock.people);
            if (person == NONE || !expect(PUTS)) {
                return false;
            }
            int thing = numberBelow(stock.things);
            if (thing == NONE || !expect(IN)) {
                return false;
            }
            int place = numberBelow(PLACES);
            if (place == NONE || !expect(';')) {
                return false;
            }
            rows.add(hour, person, thing, place);
            return true;
        }

        private boolean customLine() {
            step();
            int hour = numberBelow(TOLD_HOURS);
            if (hour == NONE) {
                return false;
            }
            int what = customKind();
            if (what == NONE) {
                return blame(CANT_STAND);
            }
            step();
            boolean ofPlace = what == Doings.LOCK || what == Doings.OPEN;
            int who = numberBelow(ofPlace ? PLACES : stock.people);
            if (who == NONE) {
                return false;
            }
            int place = what == Doings.SEARCH ? numberBelow(PLACES) : 0;
            if (place == NONE || !expect(';')) {
                return false;
            }
            rows.add(hour, what, who, place);
            return true;
        }

        private int customKind() {
            switch (kinds[cursor]) {
                case TIE:
                    return Doings.TIE;
                case LOOSE:
                    return Doings.LOOSE;
                case LOCK:
                    return Doings.LOCK;
                case OPEN:
                    return Doings.OPEN;
                case SEARCH:
                    return Doings.SEARCH;
                default:
                    return NONE;
            }
        }

        private boolean childLine() {
            step();
            if (kinds[cursor] == NUMBER && linesOfChild(values[cursor]) >= 2) {
                return blame(CANT_BE);
            }
            int child = numberBelow(stock.people);
            if (child == NONE || !expect(CHILD) || !expect(OF)) {
                return false;
            }
            if (kinds[cursor] == NUMBER && values[cursor] == child) {
                return blame(CANT_BE);
            }
            int parent = numberBelow(stock.people);
            if (parent == NONE || !expect(';')) {
                return false;
            }
            rows.add(child, parent, 0, 0);
            return true;
        }

        private int linesOfChild(int child) {
            int count = 0;
            for (int i = 0; i < rows.count; i++) {
                if (rows.cell(i, 0) == child) {
                    count++;
                }
            }
            return count;
        }

        private boolean lawLine() {
            law.begin(kinds[cursor] - PALMS);
            step();
            if (!sum()) {
                return false;
            }
            law.beginWhen();
            if (kinds[cursor] == WHEN) {
                step();
                if (!condition(0)) {
                    return false;
                }
            }
            law.finish();
            return expect(';');
        }

        /** "or" and "and" in one loop: each waits till what stands behind it is read. */
        private boolean condition(int open) {
            boolean either = false;
            boolean both = false;
            for (int i = 0; i < TAPE; i++) {
                if (!claim(open)) {
                    return false;
                }
                if (both) {
                    law.emit(Law.AND, 0);
                }
                both = kinds[cursor] == AND;
                if (!both) {
                    if (either) {
                        law.emit(Law.OR, 0);
                    }
                    if (kinds[cursor] != OR) {
                        return true;
                    }
                    either = true;
                }
                step();
            }
            return blame(CANT_STAND);
        }

        /** What is open, a bracket or a not, is counted, so that a text can't lead too deep. */
        private boolean claim(int open) {
            int first = kinds[cursor];
            if (first == NOT || first == '(') {
                if (open >= OPEN_MOST) {
                    return blame(TOO_MANY);
                }
                step();
                if (first == '(') {
                    return condition(open + 1) && expect(')');
                }
                if (!claim(open + 1)) {
                    return false;
                }
                law.emit(Law.NOT, 0);
                return true;
            }
            if (!sum()) {
                return false;
            }
            int sign = kinds[cursor];
            if (sign != '<' && sign != '=' && sign != '>') {
                return blame(CANT_STAND);
            }
            step();
            if (!sum()) {
                return false;
            }
            law.emit(sign == '<' ? Law.LESS : sign == '=' ? Law.SAME : Law.MORE, 0);
            return true;
        }

        /** Sums and products in one loop: a sign waits till what stands behind it is read. */
        private boolean sum() {
            int adding = NONE;
            boolean times = false;
            for (int i = 0; i < TAPE; i++) {
                if (!unit()) {
                    return false;
                }
                if (times) {
                    law.emit(Law.TIMES, 0);
                }
                if (!parts()) {
                    return false;
                }
                times = kinds[cursor] == '*';
                if (!times) {
                    if (adding != NONE) {
                        law.emit(adding, 0);
                    }
                    if (kinds[cursor] != '+' && kinds[cursor] != '-') {
                        return true;
                    }
                    adding = kinds[cursor] == '+' ? Law.ADD : Law.TAKE;
                }
                step();
            }
            return blame(CANT_STAND);
        }

        private boolean parts() {
            for (int i = 0; i < TAPE && kinds[cursor] == '/'; i++) {
                step();
                if (kinds[cursor] != NUMBER) {
                    return blame(CANT_STAND);
                }
                if (values[cursor] == 0) {
                    return blame(CANT_BE);
                }
                law.emit(Law.PART, values[cursor]);
                step();
            }
            return true;
        }

        private boolean unit() {
            int kind = kinds[cursor];
            if (kind == NUMBER) {
                law.emit(Law.NUMBER, values[cursor]);
            } else if (kind >= SLEIGHT && kind <= HOUR) {
                law.emit(Law.FACT, kind - SLEIGHT);
            } else {
                return blame(CANT_STAND);
            }
            step();
            return true;
        }
    }

    /** What is asked of what was told for thought alone. */
    private static final class Thought {
        private static final int UP = 0;
        private static final int RIGHT = 1;
        private static final int DOWN = 2;
        private static final int LEFT = 3;

        private final Told told;
        private final int[] work = new int[1 << SEATS];
        private final int[] allowed = new int[SEATS];

        Thought(Told told) {
            this.told = told;
        }

        int cupBehind(int cup) {
            int at = cup;
            for (int i = 0; i < told.swaps.count; i++) {
                int a = told.swaps.cell(i, 0);
                int b = told.swaps.cell(i, 1);
                if (at == a) {
                    at = b;
                } else if (at == b) {
                    at = a;
                }
            }
            return at;
        }

        /** Each circle of cups needs one change less than it has cups. */
        int leastSwaps() {
            int seen = 0;
            int circles = 0;
            for (int i = 0; i < CUPS; i++) {
                if (!Moving.hasBit(seen, i)) {
                    circles++;
                }
                int at = i;
                for (int j = 0; j < CUPS && !Moving.hasBit(seen, at); j++) {
                    seen = Moving.withBit(seen, at, true);
                    at = cupBehind(at);
                }
            }
            return CUPS - circles;
        }

        private static int afterPick(int n, int at, int pile) {
            int own = at % PILES;
            int third = PILES - pile - own;
            int slot = own == pile ? 1 : own > third ? 2 : 0;
            return slot * (n / PILES) + at / PILES;
        }

        int cardBehind(int n, int card) {
            int at = card;
            for (int i = 0; i < told.picks.count; i++) {
                at = afterPick(n, at, told.picks.cell(i, 0));
            }
            return at;
        }

        int turnsTillSame(int n) {
            for (int i = 0; i < n && i < CARDS_MOST; i++) {
                work[i] = i;
            }
            for (int turn = 1; turn <= TURNS_MOST; turn++) {
                boolean same = true;
                for (int i = 0; i < n && i < CARDS_MOST; i++) {
                    work[i] = afterPick(n, work[i], 1);
                    same = same && work[i] == i;
                }
                if (same) {
                    return turn;
                }
            }
            return NONE;
        }

        private boolean goesInto(int inner, int outer) {
            return told.boxes.cell(inner, 0) < told.boxes.cell(outer, 0)
                    && told.boxes.cell(inner, 1) < told.boxes.cell(outer, 1);
        }

        /** How many go into one another, or which one is the outermost of them. */
        int nested(boolean outermost) {
            int count = told.boxes.count;
            Arrays.fill(work, 1);
            for (int pass = 0; pass < count; pass++) {
                for (int i = 0; i < count * count; i++) {
                    int outer = i / count;
                    int inner = i % count;
                    if (goesInto(inner, outer)) {
                        work[outer] = Math.max(work[outer], work[inner] + 1);
                    }
                }
            }
            int best = NONE;
            for (int i = 0; i < count; i++) {
                if (best == NONE || work[i] > work[best]) {
                    best = i;
                }
            }
            if (outermost) {
                return best;
            }
            return best == NONE ? 0 : work[best];
        }

        int openedFrom(int open) {
            int set = open;
            for (int pass = 0; pass < KEY_BOXES; pass++) {
                for (int i = 0; i < told.keys.count; i++) {
                    if (Moving.hasBit(set, told.keys.cell(i, 0))) {
                        set = Moving.withBit(set, told.keys.cell(i, 1), true);
                    }
                }
            }
            return set;
        }

        /** One of each knot of boxes must be forced that no box outside the knot opens. */
        int fewestForced() {
            for (int i = 0; i < KEY_BOXES; i++) {
                work[i] = openedFrom(1 << i);
            }
            int forced = 0;
            for (int i = 0; i < KEY_BOXES; i++) {
                boolean must = true;
                for (int j = 0; j < KEY_BOXES; j++) {
                    boolean opensIt = j != i && Moving.hasBit(work[j], i);
                    if (opensIt && (j < i || !Moving.hasBit(work[i], j))) {
                        must = false;
                    }
                }
                if (must) {
                    forced++;
                }
            }
            return forced;
        }

        static int lastInRing(int n, int k) {
            int last = 0;
            for (int size = 2; size <= n; size++) {
                last = (last + k) % size;
            }
            return last;
        }

        /** Counts places from where the next count begins, in the ring that is left. */
        static int outOfRing(int n, int k, int who) {
            int at = who;
            for (int size = n; size > 0; size--) {
                int out = (k - 1) % size;
                if (at == out) {
                    return n - size + 1;
                }
                at = (at - out - 1 + size) % size;
            }
            return NONE;
        }

        /** A weighing has three ends; a false one of unknown kind has two, but one coin may stay without. */
        static int weighed(int n, boolean either) {
            int ends = either ? 2 * n + 1 : n;
            int weighings = 0;
            for (int known = 1; known < ends; known *= 3) {
                weighings++;
            }
            return weighings;
        }

        /** The states go by the reflected code, downwards. */
        static int movesOff(int n) {
            int moves = 0;
            for (int i = 0; i < n; i++) {
                moves = 2 * moves + (i % 2 == 0 ? 1 : 0);
            }
            return moves;
        }

        static int choices(int n, int k) {
            int ways = 1;
            for (int i = 1; i <= k; i++) {
                ways = ways * (n - k + i) / i;
            }
            return ways;
        }

        static int allWrong(int n) {
            int ways = 1;
            for (int i = 1; i <= n; i++) {
                ways = ways * i + (i % 2 == 0 ? 1 : -1);
            }
            return ways;
        }

        /** Where the glance comes out, or how many mirrors it meets; it can't go in a circle. */
        int glanced(int edge, boolean mirrors) {
            int side = edge / GRID;
            int along = edge % GRID;
            int way = (side + 2) % 4;
            int row = side == UP ? 0 : side == DOWN ? GRID - 1 : along;
            int column = side == LEFT ? 0 : side == RIGHT ? GRID - 1 : along;
            int met = 0;
            for (int i = 0; i < GRID * GRID * 4 && inGrid(row) && inGrid(column); i++) {
                int mirror = told.mirrors[row * GRID + column];
                if (mirror != 0) {
                    met++;
                    way = mirror == 1 ? way ^ 1 : 3 - way;
                }
                row += way == UP ? -1 : way == DOWN ? 1 : 0;
                column += way == LEFT ? -1 : way == RIGHT ? 1 : 0;
            }
            boolean upright = way == UP || way == DOWN;
            return mirrors ? met : way * GRID + (upright ? column : row);
        }

        private static boolean inGrid(int at) {
            return at >= 0 && at < GRID;
        }

        /** In how many ways each place has a thing, that thing (if there is one) held to that place. */
        int waysToFit(int thing, int place) {
            Arrays.fill(allowed, (1 << SEATS) - 1);
            for (int i = 0; i < told.clues.count; i++) {
                int a = told.clues.cell(i, 0);
                int seat = 1 << told.clues.cell(i, 1);
                if (a >= 0 && a < SEATS) {
                    allowed[a] &= told.clues.cell(i, 2) == 1 ? seat : ~seat;
                }
            }
            if (thing >= 0 && thing < SEATS) {
                allowed[thing] &= 1 << place;
            }
            return waysAllowed();
        }

        /** By the set of places that the first few things have. */
        private int waysAllowed() {
            Arrays.fill(work, 0);
            work[0] = 1;
            int all = (1 << SEATS) - 1;
            for (int set = 0; set < all; set++) {
                int thing = Integer.bitCount(set);
                for (int place = 0; place < SEATS && work[set] != 0; place++) {
                    int seat = 1 << place;
                    if ((set & seat) == 0 && (allowed[thing] & seat) != 0) {
                        work[set | seat] += work[set];
                    }
                }
            }
            return work[all];
        }

        int surePlace(int thing) {
            int sure = NONE;
            for (int place = 0; place < SEATS; place++) {
                if (waysToFit(thing, place) > 0) {
                    if (sure != NONE) {
                        return NONE;
                    }
                    sure = place;
                }
            }
            return sure;
        }

        int inherited(int worth, int who) {
            int parts = 0;
            for (int i = 0; i < told.shares.count; i++) {
                parts += told.shares.cell(i, 0);
            }
            if (parts <= 0) {
                return NONE;
            }
            int own = worth * told.shares.cell(who, 0);
            int rest = worth;
            int ahead = 0;
            for (int i = 0; i < told.shares.count; i++) {
                int due = worth * told.shares.cell(i, 0);
                rest -= due / parts;
                if (due % parts > own % parts || due % parts == own % parts && i < who) {
                    ahead++;
                }
            }
            return own / parts + (ahead < rest ? 1 : 0);
        }

        /** Puts what each row is worth in the game into work. */
        private void weighRows() {
            for (int cups = 0; cups <= ROW_MOST; cups++) {
                int seen = 0;
                for (int take = 1; take <= (cups + 1) / 2; take++) {
                    seen = Moving.withBit(seen, work[cups - take], true);
                }
                int worth = 0;
                while (worth < ROW_MOST && Moving.hasBit(seen, worth)) {
                    worth++;
                }
                work[cups] = worth;
            }
        }

        /** The row to take from, or how many to take. */
        int goodMove(boolean many) {
            weighRows();
            int all = 0;
            for (int i = 0; i < told.rows.count; i++) {
                all ^= work[told.rows.cell(i, 0)];
            }
            for (int i = 0; i < told.rows.count; i++) {
                int cups = told.rows.cell(i, 0);
                for (int take = 1; take <= (cups + 1) / 2; take++) {
                    if ((all ^ work[cups] ^ work[cups - take]) == 0) {
                        return many ? take : i;
                    }
                }
            }
            return NONE;
        }
    }

    /** HEIR: counts how marks can be given, taking the person with most bonds first, so that the rest falls apart. */
    private static final class Kin {
        private static final long MODULUS = 1000000007L;
        private static final int MARKS = 3;

        private final int[] first = new int[PEOPLE];
        private final int[] second = new int[PEOPLE];
        private final int[] near = new int[PEOPLE];
        private final int[] allowed = new int[PEOPLE];
        private final int[] marks = new int[PEOPLE];
        private int people = 0;

        void gather(int howMany, Rows line, int[] gifts) {
            people = Math.max(0, Math.min(howMany, PEOPLE));
            Arrays.fill(first, NONE);
            Arrays.fill(second, NONE);
            Arrays.fill(near, 0);
            Arrays.fill(marks, NONE);
            for (int i = 0; i < PEOPLE && i < gifts.length; i++) {
                allowed[i] = gifts[i] == 0 ? 1 : gifts[i] == 1 ? 6 : 7;
            }
            for (int i = 0; i < line.count; i++) {
                addParent(line.cell(i, 0), line.cell(i, 1));
            }
        }

        private void addParent(int child, int parent) {
            if (child < 0 || child >= people || parent < 0 || parent >= people) {
                return;
            }
            bind(child, parent);
            if (first[child] == NONE) {
                first[child] = parent;
            } else if (first[child] != parent) {
                // Parents are a set: one who is told twice is one, and the other is not told.
                second[child] = parent;
                bind(first[child], parent);
            }
        }

        private void bind(int a, int b) {
            if (a != b) {
                near[a] |= 1 << b;
                near[b] |= 1 << a;
            }
        }

        int ways() {
            return (int) waysOf((1 << people) - 1, 0);
        }

        /** The fewest and the most marks, as two digits; NONE if there is no way. */
        int fewAndMany(int person) {
            if (person < 0 || person >= people) {
                return NONE;
            }
            int few = NONE;
            int many = NONE;
            int may = allowed[person];
            for (int mark = 0; mark < MARKS; mark++) {
                allowed[person] = may & (1 << mark);
                if (ways() != 0) {
                    few = few == NONE ? mark : few;
                    many = mark;
                }
            }
            allowed[person] = may;
            return few == NONE ? NONE : 10 * few + many;
        }

        /** Those without a bond to one another are counted apart. */
        private long waysOf(int set, int depth) {
            long ways = 1;
            int left = set;
            for (int i = 0; i < people && ways != 0; i++) {
                if (Moving.hasBit(left, i)) {
                    int knot = knotOf(i, left);
                    left &= ~knot;
                    ways = ways * waysOfKnot(knot, depth) % MODULUS;
                }
            }
            return ways;
        }

        private long waysOfKnot(int knot, int depth) {
            if (depth >= PEOPLE) {
                return 0;
            }
            int person = mostBound(knot);
            long ways = 0;
            for (int mark = 0; mark < MARKS; mark++) {
                if (Moving.hasBit(allowed[person], mark)) {
                    marks[person] = mark;
                    if (bondsHold(person)) {
                        ways += waysOf(knot & ~(1 << person), depth + 1);
                    }
                }
            }
            marks[person] = NONE;
            return ways % MODULUS;
        }

        private int knotOf(int person, int set) {
            int knot = 1 << person;
            for (int pass = 0; pass < PEOPLE; pass++) {
                int before = knot;
                for (int i = 0; i < people; i++) {
                    if (Moving.hasBit(knot, i)) {
                        knot |= near[i] & set;
                    }
                }
                if (knot == before) {
                    return knot;
                }
            }
            return knot;
        }

        private int mostBound(int knot) {
            int best = 0;
            int most = NONE;
            for (int i = 0; i < people; i++) {
                int bonds = Integer.bitCount(near[i] & knot);
                if (Moving.hasBit(knot, i) && bonds > most) {
                    best = i;
                    most = bonds;
                }
            }
            return best;
        }

        private boolean bondsHold(int person) {
            for (int i = 0; i < people; i++) {
                if ((i == person || first[i] == person || second[i] == person) && !bondHolds(i)) {
                    return false;
                }
            }
            return true;
        }

        private boolean bondHolds(int child) {
            int mark = marks[child];
            if (mark == NONE) {
                return true;
            }
            int a = marksOf(first[child]);
            int b = marksOf(second[child]);
            int low = (a == 2 ? 1 : 0) + (b == 2 ? 1 : 0);
            int high = (a == 0 ? 0 : 1) + (b == 0 ? 0 : 1);
            return mark >= low && mark <= high;
        }

        /** Who is not told, or has no marks given yet, may hand on either: as one with one mark does. */
        private int marksOf(int parent) {
            if (parent < 0 || parent >= people || marks[parent] == NONE) {
                return 1;
            }
            return marks[parent];
        }
    }
}
