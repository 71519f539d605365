import java.util.ArrayDeque;
import java.util.Arrays;
import java.util.Deque;
import java.util.HashMap;
import java.util.Map;
import java.util.Random;

/** What is asked in thought, against plain searches, where the random runs of ModelTest go too seldom. */
public final class ThoughtTest {
    private ThoughtTest() {
    }

    public static void main(String[] args) {
        leastChanges();
        coins();
        ringsByBreadth();
        hatsByTrying();
        wholeRings();
        allCards();
        bigGames();
        kinOfTwelve();
        willsAddUp();
        glancesGoBack();
        Due.finish();
    }

    /** The fewest changes of two, by going breadth first over the orders of the first five cups. */
    private static void leastChanges() {
        Map<String, Integer> least = new HashMap<>();
        Deque<String> open = new ArrayDeque<>();
        least.put("01234", 0);
        open.add("01234");
        while (!open.isEmpty()) {
            String order = open.removeFirst();
            for (int a = 0; a < 5; a++) {
                for (int b = a + 1; b < 5; b++) {
                    String next = changed(order, a, b);
                    if (least.putIfAbsent(next, least.get(order) + 1) == null) {
                        open.add(next);
                    }
                }
            }
        }
        Random r = new Random(5);
        for (int run = 0; run < 200; run++) {
            SleightHouse x = new SleightHouse();
            String order = "01234";
            int count = r.nextInt(17);
            for (int i = 0; i < count; i++) {
                int a = r.nextInt(5);
                int b = (a + 1 + r.nextInt(4)) % 5;
                x.swap(a, b);
                order = changed(order, a, b);
            }
            Due.is("least", x.under(-1), least.get(order));
            for (int cup = 0; cup < 5; cup++) {
                Due.is("under", x.under(cup), order.indexOf('0' + cup));
            }
        }
    }

    private static String changed(String order, int a, int b) {
        char[] all = order.toCharArray();
        all[a] = order.charAt(b);
        all[b] = order.charAt(a);
        return new String(all);
    }

    /** All ways to weigh: coins that may be either, that may be light, that may be heavy, and good ones. */
    private static void coins() {
        SleightHouse x = new SleightHouse();
        Map<String, Boolean> known = new HashMap<>();
        for (int n = 2; n <= 14; n++) {
            int lighter = 0;
            while (!canTell(0, n, 0, 0, lighter, known)) {
                lighter++;
            }
            Due.is("lighter of " + n, x.weighings(n, 0), lighter);
            int either = 0;
            while (n >= 3 && !canTell(n, 0, 0, 0, either, known)) {
                either++;
            }
            Due.is("either of " + n, x.weighings(n, 1), n < 3 ? -1 : either);
        }
    }

    private static boolean canTell(int any, int light, int heavy, int good, int left, Map<String, Boolean> known) {
        if (any + light + heavy <= 1) {
            return true;
        }
        if (left == 0) {
            return false;
        }
        String state = any + " " + light + " " + heavy + " " + Math.min(good, 14) + " " + left;
        Boolean before = known.get(state);
        if (before != null) {
            return before;
        }
        known.put(state, false);
        for (int a = 0; a <= any; a++) {
            for (int b = 0; a + b <= any; b++) {
                for (int c = 0; c <= light; c++) {
                    for (int d = 0; c + d <= light; d++) {
                        for (int e = 0; e <= heavy; e++) {
                            for (int f = 0; e + f <= heavy; f++) {
                                if (weighs(new int[] {any, light, heavy, good}, new int[] {a, b, c, d, e, f}, left, known)) {
                                    known.put(state, true);
                                    return true;
                                }
                            }
                        }
                    }
                }
            }
        }
        return false;
    }

    /** On the left a, c, e of the three kinds, on the right b, d, f; good ones make both sides alike. */
    private static boolean weighs(int[] s, int[] p, int left, Map<String, Boolean> known) {
        int onLeft = p[0] + p[2] + p[4];
        int onRight = p[1] + p[3] + p[5];
        if (onLeft < onRight || onLeft == 0 || onLeft - onRight > s[3]) {
            return false;
        }
        int all = s[0] + s[1] + s[2] + s[3];
        int[] even = {s[0] - p[0] - p[1], s[1] - p[2] - p[3], s[2] - p[4] - p[5]};
        int[] leftDown = {0, p[1] + p[3], p[0] + p[4]};
        int[] rightDown = {0, p[0] + p[2], p[1] + p[5]};
        for (int[] end : new int[][] {even, leftDown, rightDown}) {
            int sum = end[0] + end[1] + end[2];
            if (!canTell(end[0], end[1], end[2], all - sum, left - 1, known)) {
                return false;
            }
        }
        return true;
    }

    private static void ringsByBreadth() {
        SleightHouse x = new SleightHouse();
        for (int n = 1; n <= 10; n++) {
            int[] away = new int[1 << n];
            Arrays.fill(away, -1);
            away[0] = 0;
            Deque<Integer> open = new ArrayDeque<>();
            open.add(0);
            while (!open.isEmpty()) {
                int state = open.removeFirst();
                for (int ring = 0; ring < n; ring++) {
                    boolean moves = ring == 0 || (state & ((1 << ring) - 1)) == 1 << (ring - 1);
                    int next = state ^ 1 << ring;
                    if (moves && away[next] < 0) {
                        away[next] = away[state] + 1;
                        open.add(next);
                    }
                }
            }
            int all = (1 << n) - 1;
            Due.is("rings of " + n, x.rings(n, -1), away[all]);
            for (int m = 0; m <= away[all]; m++) {
                int state = x.rings(n, m);
                Due.is("rings of " + n + " behind " + m, away[state], away[all] - m);
            }
        }
    }

    private static void hatsByTrying() {
        SleightHouse x = new SleightHouse();
        for (int n = 1; n <= 8; n++) {
            int[] own = new int[n + 1];
            hand(n, 0, 0, 0, own);
            for (int k = 0; k <= n; k++) {
                Due.is("hats of " + n + ", own " + k, x.hats(n, k), own[k]);
            }
        }
    }

    private static void hand(int n, int next, int used, int ownSoFar, int[] own) {
        if (next == n) {
            own[ownSoFar]++;
            return;
        }
        for (int hat = 0; hat < n; hat++) {
            if ((used >> hat & 1) == 0) {
                hand(n, next + 1, used | 1 << hat, ownSoFar + (hat == next ? 1 : 0), own);
            }
        }
    }

    private static void wholeRings() {
        SleightHouse x = new SleightHouse();
        Model m = new Model();
        for (int n = 1; n <= 40; n++) {
            for (int k = 1; k <= 20; k += 3) {
                for (int who = -1; who < n; who++) {
                    Due.is("ring " + n + " " + k + " " + who, x.ring(n, k, who), m.ring(n, k, who));
                }
            }
        }
    }

    private static void allCards() {
        for (int n = 3; n <= 30; n += 3) {
            SleightHouse x = new SleightHouse();
            Model m = new Model();
            Due.is("how often of " + n, x.card(n, -1), m.card(n, -1));
            for (int pick : new int[] {2, 0, 1, 2}) {
                x.pick(pick);
                m.pick(pick);
                for (int c = 0; c < n; c++) {
                    Due.is("card " + c + " of " + n, x.card(n, c), m.card(n, c));
                }
            }
        }
    }

    private static void bigGames() {
        int[][] games = {{30, 29, 28}, {17, 23, 5, 2}, {9, 8, 7, 6, 5}, {30}, {2, 2, 6, 6}, {0, 0, 14, 30}};
        for (int[] rows : games) {
            SleightHouse x = new SleightHouse();
            Model m = new Model();
            for (int row : rows) {
                x.row(row);
                m.row(row);
            }
            Due.is("row of " + Arrays.toString(rows), x.game(0), m.game(0));
            Due.is("how many of " + Arrays.toString(rows), x.game(1), m.game(1));
        }
    }

    private static void kinOfTwelve() {
        Random r = new Random(12);
        for (int run = 0; run < 14; run++) {
            SleightHouse x = new SleightHouse();
            Model m = new Model();
            for (int i = 0; i < 12; i++) {
                x.person(0, 0);
                m.person(0, 0);
                int told = r.nextInt(6);
                x.gift(i, Math.min(told, 2));
                m.gift(i, Math.min(told, 2));
            }
            StringBuilder text = new StringBuilder();
            int[] parents = new int[12];
            for (int i = 0; i < 16; i++) {
                int child = run < 4 ? Math.min(i, 10) : r.nextInt(12);
                int far = run < 8 ? 2 : 11;
                int parent = run < 4 ? child + 1 : (child + 1 + r.nextInt(far)) % 12;
                if (parents[child]++ < 2) {
                    text.append("person ").append(child).append(" child of ").append(parent).append(";");
                }
            }
            Due.tell(x, 3, text.toString());
            m.tape = text.toString();
            m.text(3);
            Due.is("ways of " + text, x.heir(-1), m.heir(-1));
            int person = r.nextInt(12);
            Due.is("must of " + text, x.heir(person), m.heir(person));
        }
    }

    private static void willsAddUp() {
        Random r = new Random(3);
        for (int run = 0; run < 300; run++) {
            SleightHouse x = new SleightHouse();
            int shares = 1 + r.nextInt(6);
            for (int i = 0; i < shares; i++) {
                x.share(1 + r.nextInt(30));
            }
            int worth = r.nextInt(10000);
            int sum = 0;
            for (int i = 0; i < shares; i++) {
                sum += x.gets(worth, i);
            }
            Due.is("a will leaves nothing over", sum, worth);
        }
    }

    private static void glancesGoBack() {
        Random r = new Random(36);
        for (int run = 0; run < 100; run++) {
            SleightHouse x = new SleightHouse();
            for (int place = 0; place < 36; place++) {
                x.mirror(place, r.nextInt(3));
            }
            for (int edge = 0; edge < 24; edge++) {
                int out = x.glance(edge, 0);
                Due.is("never out where it came in", out != edge, true);
                Due.is("there and back", x.glance(out, 0), edge);
                Due.is("as many mirrors", x.glance(out, 1), x.glance(edge, 1));
            }
        }
    }
}
