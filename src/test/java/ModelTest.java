import java.math.BigInteger;
import java.util.ArrayDeque;
import java.util.ArrayList;
import java.util.Arrays;
import java.util.HashMap;
import java.util.List;
import java.util.Map;
import java.util.Random;

/** Random runs against a model that follows the document's words without any short cut. */
public final class ModelTest {
    private static final int UNKNOWN = -1, OUTSIDE = -2, STATE = -3, FULL = -4, NONE = -9;
    private static final int RUNS = 1500, CALLS = 120;
    private static int wrong = 0;

    /** One moment of a road; a new one is made for each doing. */
    private static final class Moment implements Cloneable {
        int[][] pleats = {};
        int[][] people = {};
        int[] place = {};
        int[] wind = {};
        boolean[] greased = {};
        boolean[] open = {};
        boolean[] ice = {};
        int frost;
        int step;

        Moment copy() {
            Moment m = new Moment();
            m.pleats = pleats;
            m.people = people;
            m.place = place.clone();
            m.wind = wind.clone();
            m.greased = greased.clone();
            m.open = open.clone();
            m.ice = ice.clone();
            m.frost = frost;
            m.step = step;
            return m;
        }

        int cost(int k) {
            int c;
            if (open[k]) {
                c = 0;
            } else if (pleats[k][1] == 3) {
                c = 1;
            } else {
                c = pleats[k][0] + frost;
                if (pleats[k][1] == 1) {
                    c = c / 2 < 1 ? 1 : c / 2;
                }
                if (greased[k]) {
                    c = c - 2 < 1 ? 1 : c - 2;
                }
            }
            return ice[k] ? c + 1 : c;
        }

        int pays(int t, int k) {
            int c = cost(k);
            return people[t][2] == 1 ? c / 2 : people[t][2] == 2 ? c + 1 : c;
        }

        int beside(int t, boolean on) {
            int k = on ? place[t] : place[t] - 1;
            return k < 0 || k >= pleats.length ? -1 : k;
        }

        /** Null: it can not be. */
        Moment stepped(int t, boolean on) {
            if (t >= people.length) {
                return null;
            }
            int k = beside(t, on);
            if (k < 0 || wind[t] < pays(t, k)) {
                return null;
            }
            Moment m = copy();
            m.wind[t] -= pays(t, k);
            m.place[t] = on ? k + 1 : k;
            if (pleats[k][1] == 3) {
                m.wind[t] = people[t][1];
            }
            Arrays.fill(m.open, false);
            if (people[t][2] == 3) {
                m.open[k] = true;
            }
            m.step++;
            return m;
        }

        Moment rested(int t) {
            if (t >= people.length) {
                return null;
            }
            Moment m = copy();
            int more = people[t][1] / 2 < 1 ? 1 : people[t][1] / 2;
            m.wind[t] = wind[t] + more > people[t][1] ? people[t][1] : wind[t] + more;
            Arrays.fill(m.open, false);
            m.step++;
            return m;
        }

        Moment greased(int k) {
            if (k >= pleats.length || greased[k]) {
                return null;
            }
            Moment m = copy();
            m.greased[k] = true;
            return m;
        }

        Moment frozen() {
            if (frost == 5) {
                return null;
            }
            Moment m = copy();
            m.frost++;
            return m;
        }

        String key(int t) {
            return place[t] + " " + wind[t] + " " + Arrays.toString(open);
        }

        /** For each place the fewest moves that lead to it, or -9. */
        int[] moves(int t, boolean withRests, int most) {
            int[] fewest = new int[pleats.length + 1];
            Arrays.fill(fewest, NONE);
            Map<String, Integer> far = new HashMap<>();
            ArrayDeque<Moment> todo = new ArrayDeque<>();
            far.put(key(t), 0);
            todo.add(this);
            while (!todo.isEmpty()) {
                Moment m = todo.remove();
                int d = far.get(m.key(t));
                if (fewest[m.place[t]] == NONE && d <= most) {
                    fewest[m.place[t]] = d;
                }
                Moment[] next = {m.stepped(t, true), m.stepped(t, false), withRests ? m.rested(t) : null};
                for (Moment n : next) {
                    if (n != null && !far.containsKey(n.key(t))) {
                        far.put(n.key(t), d + 1);
                        todo.add(n);
                    }
                }
            }
            return fewest;
        }

        int reach(int t) {
            int bits = 0;
            int[] fewest = moves(t, false, 1000000);
            for (int p = 0; p < fewest.length; p++) {
                if (fewest[p] != NONE) {
                    bits |= 1 << p;
                }
            }
            return bits;
        }
    }

    private String text = "";
    private Moment now = new Moment();
    private final List<Moment> row = new ArrayList<>();
    private final Moment[] kept = new Moment[2];
    private final List<int[]> heard = new ArrayList<>();
    private long seed = 0;

    private static int bits(boolean[] of) {
        int b = 0;
        for (int i = 0; i < of.length; i++) {
            b |= of[i] ? 1 << i : 0;
        }
        return b;
    }

    /** Whether a text can become a road by letters behind it; tried by its forms, part by part. */
    private static boolean canBegin(String t, boolean whole) {
        if (t.isEmpty()) {
            return !whole;
        }
        if (t.charAt(0) != 'R') {
            return false;
        }
        int pleats = 0, people = 0, i = 1;
        while (i < t.length()) {
            String rest = t.substring(i);
            if (rest.charAt(0) == 'F' && pleats < 10) {
                String form = rest.substring(0, Math.min(3, rest.length()));
                if (!form.matches("F([1-9]([0-3])?)?") || whole && form.length() < 3) {
                    return false;
                }
                pleats++;
                i += 3;
            } else if (rest.charAt(0) == 'T' && people < 5) {
                String form = rest.substring(0, Math.min(4, rest.length()));
                if (!form.matches("T([0-9]([1-9]([0-3])?)?)?") || whole && form.length() < 4) {
                    return false;
                }
                if (form.length() > 1 && form.charAt(1) - '0' > pleats) {
                    return false;
                }
                people++;
                i += 4;
            } else {
                return false;
            }
        }
        return true;
    }

    private int fault() {
        if (canBegin(text, true)) {
            return NONE;
        }
        for (int i = 0; i < text.length(); i++) {
            if (!canBegin(text.substring(0, i + 1), false)) {
                return i;
            }
        }
        return text.length();
    }

    private int road() {
        if (fault() != NONE) {
            return STATE;
        }
        List<int[]> pleats = new ArrayList<>(), people = new ArrayList<>();
        for (int i = 1; i < text.length();) {
            if (text.charAt(i) == 'F') {
                pleats.add(new int[] {text.charAt(i + 1) - '0', text.charAt(i + 2) - '0'});
                i += 3;
            } else {
                people.add(new int[] {text.charAt(i + 1) - '0', text.charAt(i + 2) - '0', text.charAt(i + 3) - '0'});
                i += 4;
            }
        }
        now = new Moment();
        now.pleats = pleats.toArray(new int[0][]);
        now.people = people.toArray(new int[0][]);
        now.place = new int[people.size()];
        now.wind = new int[people.size()];
        for (int t = 0; t < people.size(); t++) {
            now.place[t] = people.get(t)[0];
            now.wind[t] = people.get(t)[1];
        }
        now.greased = new boolean[pleats.size()];
        now.open = new boolean[pleats.size()];
        now.ice = new boolean[pleats.size()];
        for (int k = 0; k < pleats.size(); k++) {
            now.greased[k] = pleats.get(k)[1] == 2;
        }
        row.clear();
        Arrays.fill(kept, null);
        return 10 * pleats.size() + people.size();
    }

    private boolean noPleat(int k) {
        return k < 0 || k >= now.pleats.length;
    }

    private boolean nobody(int t) {
        return t < 0 || t >= now.people.length;
    }

    private boolean noPlace(int p) {
        return p < 0 || p > now.pleats.length;
    }

    private void act(Moment next) {
        row.add(now);
        if (row.size() > 14) {
            row.remove(0);
        }
        now = next;
    }

    private int pleat(int k, int what) {
        if (noPleat(k)) {
            return UNKNOWN;
        }
        int[] all = {now.pleats[k][0], now.pleats[k][1], now.cost(k), now.greased[k] ? 1 : 0, now.open[k] ? 1 : 0};
        return what < 0 || what > 4 ? OUTSIDE : all[what];
    }

    private int toll(int t, boolean on) {
        return now.beside(t, on) < 0 ? NONE : now.pays(t, now.beside(t, on));
    }

    private int traveller(int t, int what) {
        if (nobody(t)) {
            return UNKNOWN;
        }
        int[] all = {now.place[t], now.people[t][1], now.people[t][2], now.wind[t], toll(t, false), toll(t, true)};
        return what < 0 || what > 5 ? OUTSIDE : all[what];
    }

    private int wants(int t, int p) {
        if (nobody(t) || noPlace(p)) {
            return UNKNOWN;
        }
        int best = NONE;
        for (int set = 0; set < 1 << now.pleats.length; set++) {
            if ((set & bits(now.greased)) != 0 || best != NONE && Integer.bitCount(set) >= Integer.bitCount(best)) {
                continue;
            }
            Moment m = now.copy();
            for (int k = 0; k < now.pleats.length; k++) {
                m.greased[k] |= (set >> k & 1) == 1;
            }
            if ((m.reach(t) >> p & 1) == 1) {
                best = set;
            }
        }
        return best;
    }

    private int shutIn() {
        int b = 0;
        for (int t = 0; t < now.people.length; t++) {
            b |= Integer.bitCount(now.reach(t)) == 1 ? 1 << t : 0;
        }
        return b;
    }

    private int judge(int n, long told) {
        if (n < 1 || n > 4 || told < 0 || Long.toString(told).length() > 3 * n && told != 0) {
            return OUTSIDE;
        }
        String all = "000000000000" + told;
        all = all.substring(all.length() - 3 * n);
        Moment m = now;
        for (int i = 0; i < n; i++) {
            int a = all.charAt(3 * i) - '0', b = all.charAt(3 * i + 1) - '0', c = all.charAt(3 * i + 2) - '0';
            Moment next = null;
            if (a == 1 && c <= 1) {
                next = m.stepped(b, c == 1);
            } else if (a == 2 && b == 0) {
                next = m.rested(c);
            } else if (a == 3 && b == 0) {
                next = m.greased(c);
            } else if (a == 4 && b == 0 && c == 0) {
                next = m.frozen();
            } else if (a == 5 && b < m.people.length && m.place[b] == c) {
                next = m;
            }
            if (next == null) {
                return i;
            }
            m = next;
        }
        return NONE;
    }

    private int who(int what) {
        if (what < 0 || what > 1) {
            return OUTSIDE;
        }
        int many = 0, first = NONE;
        for (int number = 0; number < 40; number++) {
            if (number % 10 == 0) {
                continue;
            }
            Moment m = new Moment();
            m.pleats = now.pleats;
            m.people = new int[][] {{0, number % 10, number / 10}};
            m.place = new int[1];
            m.wind = new int[] {number % 10};
            m.greased = new boolean[now.pleats.length];
            m.open = new boolean[now.pleats.length];
            m.ice = new boolean[now.pleats.length];
            for (int k = 0; k < now.pleats.length; k++) {
                m.greased[k] = now.pleats[k][1] == 2;
            }
            for (Moment n = m; n != null; n = n.stepped(0, true)) {
                m = n;
            }
            boolean so = true;
            for (int[] h : heard) {
                so &= (m.place[0] >= h[0]) == (h[1] == 1);
            }
            if (so) {
                many++;
                first = first == NONE ? number : first;
            }
        }
        return what == 0 ? many : first;
    }

    private int orders;
    private int gained;

    private void comeOneByOne(int come, int places, int[] reaches, int asked) {
        if (Integer.bitCount(come) == reaches.length) {
            orders++;
            return;
        }
        for (int t = 0; t < reaches.length; t++) {
            if ((come >> t & 1) == 0) {
                int orderBefore = orders;
                comeOneByOne(come | 1 << t, places | reaches[t], reaches, asked);
                if (t == asked) {
                    gained += (orders - orderBefore) * Integer.bitCount(reaches[t] & ~places);
                }
            }
        }
    }

    private static int told(BigInteger above, BigInteger below, boolean upper) {
        BigInteger d = above.gcd(below);
        return (upper ? above : below).divide(d).intValueExact();
    }

    private int share(int t, boolean upper) {
        if (nobody(t)) {
            return UNKNOWN;
        }
        int[] reaches = new int[now.people.length];
        for (int i = 0; i < reaches.length; i++) {
            reaches[i] = now.reach(i);
        }
        orders = 0;
        gained = 0;
        comeOneByOne(0, 0, reaches, t);
        return told(BigInteger.valueOf(gained), BigInteger.valueOf(orders), upper);
    }

    private int[] gains(int one, int other, int a, int b) {
        int[] g = new int[2];
        Moment m = now;
        Moment n = a == 2 ? null : m.stepped(one, a == 1);
        if (n != null) {
            m = n;
            g[0]++;
        }
        n = b == 2 ? null : m.stepped(other, b == 1);
        if (n != null) {
            m = n;
            g[1]++;
        }
        if (m.place[one] != m.place[other]) {
            g[0] += 2 + ((m.reach(one) >> m.place[other] & 1) == 1 ? 4 : 0);
            g[1] += 2 + ((m.reach(other) >> m.place[one] & 1) == 1 ? 4 : 0);
        }
        return g;
    }

    private int rests(int one, int other, int what) {
        if (nobody(one) || nobody(other)) {
            return UNKNOWN;
        }
        if (one == other || what < 0 || what > 1) {
            return OUTSIDE;
        }
        int many = 0, first = NONE;
        for (int a = 0; a < 3; a++) {
            for (int b = 0; b < 3; b++) {
                int[] g = gains(one, other, a, b);
                boolean holds = true;
                for (int c = 0; c < 3; c++) {
                    holds &= gains(one, other, c, b)[0] <= g[0] && gains(one, other, a, c)[1] <= g[1];
                }
                if (holds) {
                    many++;
                    first = first == NONE ? 10 * a + b : first;
                }
            }
        }
        return what == 0 ? many : first;
    }

    private BigInteger waysIced(Moment m, int k, int t, int p, int x) {
        if (k == Math.min(8, m.pleats.length)) {
            return (m.reach(t) >> p & 1) == 1 ? BigInteger.ONE : BigInteger.ZERO;
        }
        if (m.pleats[k][1] == 3) {
            return waysIced(m, k + 1, t, p, x).multiply(BigInteger.TEN);
        }
        Moment iced = m.copy();
        iced.ice[k] = true;
        return waysIced(iced, k + 1, t, p, x).multiply(BigInteger.valueOf(x))
                .add(waysIced(m, k + 1, t, p, x).multiply(BigInteger.valueOf(10 - x)));
    }

    private int icy(int t, int p, int x, boolean upper) {
        if (nobody(t) || noPlace(p)) {
            return UNKNOWN;
        }
        if (x < 0 || x > 10) {
            return OUTSIDE;
        }
        return told(waysIced(now, 0, t, p, x), BigInteger.TEN.pow(Math.min(8, now.pleats.length)), upper);
    }

    private int summers(int m) {
        if (m < 1 || m > 30) {
            return OUTSIDE;
        }
        Moment at = now;
        int sum = 0;
        for (int i = 0; i < m; i++) {
            seed = BigInteger.valueOf(seed).multiply(new BigInteger("6364136223846793005"))
                    .add(new BigInteger("1442695040888963407")).longValue();
            String upper = Long.toBinaryString(seed);
            upper = "0".repeat(64 - upper.length()) + upper;
            int left = Integer.parseInt(upper.substring(0, 31), 2) % 26;
            Moment next = left < 10 ? at.stepped(left / 2, left % 2 == 1) : left < 15 ? at.rested(left - 10)
                    : left < 25 ? at.greased(left - 15) : at.frozen();
            at = next == null ? at : next;
            sum += Arrays.stream(at.place).sum();
        }
        return sum;
    }

    private int count(int what) {
        int places = 0;
        for (int p : now.place) {
            places |= 1 << p;
        }
        int[] all = {text.length(), now.pleats.length, now.people.length, now.step, now.frost, bits(now.greased),
            bits(now.open), places, Arrays.stream(now.wind).sum(), row.size(), heard.size()};
        return what < 0 || what > 10 ? OUTSIDE : all[what];
    }

    // ---- the runs

    private static String aText(Random r, int size) {
        StringBuilder b = new StringBuilder("R");
        int pleats = 0, people = 0;
        int mostPleats = r.nextInt(size + 1), mostPeople = r.nextInt(6);
        int mild = 1 + r.nextInt(9);
        while (pleats < mostPleats || people < mostPeople) {
            if (pleats < mostPleats && (people == mostPeople || r.nextInt(4) > 0)) {
                b.append('F').append(1 + r.nextInt(mild)).append(r.nextInt(4));
                pleats++;
            } else {
                b.append('T').append(r.nextInt(Math.min(9, pleats) + 1)).append(1 + r.nextInt(9)).append(r.nextInt(4));
                people++;
            }
        }
        if (r.nextInt(6) == 0) {
            b.setCharAt(r.nextInt(b.length()), "RFT0123456789:/X".charAt(r.nextInt(16)));
        }
        if (r.nextInt(12) == 0) {
            b.setLength(r.nextInt(b.length() + 1));
        }
        return b.toString();
    }

    private static void due(int run, String call, long got, long want) {
        if (got != want && wrong++ < 20) {
            System.out.println("run " + run + ": " + call + " answered " + got + ", due is " + want);
        }
    }

    private void tell(int run, PleatRoads x, Random r, int size) {
        due(run, "wipe", x.wipe(), text.length());
        text = aText(r, size);
        for (int i = 0; i < text.length(); i++) {
            due(run, "write", x.write(text.charAt(i)), i + 1);
        }
        due(run, "fault of " + text, x.fault(), fault());
        due(run, "road " + text, x.road(), road());
    }

    private int acted(Moment next, boolean unknown) {
        if (unknown) {
            return UNKNOWN;
        }
        if (next == null) {
            return STATE;
        }
        act(next);
        return 0;
    }

    private void doOne(int run, PleatRoads x, Random r) {
        int t = r.nextInt(8) - 1, k = r.nextInt(12) - 1, o = r.nextInt(7) - 1;
        if (r.nextInt(3) > 0 && now.people.length > 0) {
            t = r.nextInt(now.people.length);
            o = r.nextInt(now.people.length);
        }
        if (r.nextInt(3) > 0 && now.pleats.length > 0) {
            k = r.nextInt(now.pleats.length);
        }
        boolean on = r.nextBoolean();
        int got;
        int want;
        switch (r.nextInt(12)) {
            case 0: case 1: case 2: case 3:
                want = acted(nobody(t) ? null : now.stepped(t, on), nobody(t));
                due(run, "step " + t + on, x.step(t, on), want < 0 ? want : now.place[t]);
                break;
            case 4: case 5:
                want = acted(nobody(t) ? null : now.rested(t), nobody(t));
                due(run, "rest " + t, x.rest(t), want < 0 ? want : now.wind[t]);
                break;
            case 6:
                want = acted(noPleat(k) ? null : now.greased(k), noPleat(k));
                due(run, "grease " + k, x.grease(k), want < 0 ? want : now.cost(k));
                break;
            case 7:
                want = acted(now.frozen(), false);
                due(run, "freeze", x.freeze(), want < 0 ? want : now.frost);
                break;
            case 8:
                got = now.frost;
                Moment thawed = now.copy();
                thawed.frost = 0;
                want = acted(got == 0 ? null : thawed, false);
                due(run, "thaw", x.thaw(), want < 0 ? want : got);
                break;
            case 9:
                if (row.isEmpty()) {
                    due(run, "undo", x.undo(), STATE);
                } else {
                    now = row.remove(row.size() - 1);
                    due(run, "undo", x.undo(), row.size());
                }
                break;
            case 10:
                keepOrAgain(run, x, r.nextInt(4) - 1, r.nextBoolean());
                break;
            default:
                hearOrNot(run, x, r);
        }
    }

    private void keepOrAgain(int run, PleatRoads x, int slot, boolean keep) {
        if (slot < 0 || slot > 1) {
            due(run, "slot", keep ? x.keep(slot) : x.again(slot), UNKNOWN);
        } else if (keep) {
            kept[slot] = now;
            due(run, "keep", x.keep(slot), now.step);
        } else if (kept[slot] == null) {
            due(run, "again", x.again(slot), STATE);
        } else {
            now = kept[slot];
            row.clear();
            due(run, "again", x.again(slot), now.step);
        }
    }

    private void hearOrNot(int run, PleatRoads x, Random r) {
        if (r.nextInt(3) == 0) {
            due(run, "unhear", x.unhear(), heard.size());
            heard.clear();
            return;
        }
        int p = r.nextInt(13) - 1, came = r.nextInt(4) == 0 ? r.nextInt(4) - 1 : r.nextInt(2);
        boolean outside = p < 0 || p > 10 || came < 0 || came > 1;
        boolean full = heard.size() == 6;
        if (!outside && !full) {
            heard.add(new int[] {p, came});
        }
        due(run, "hear", x.hear(p, came), outside ? OUTSIDE : full ? FULL : heard.size());
    }

    private static long aRow(Random r, int n) {
        long row = 0;
        for (int i = 0; i < n; i++) {
            int doing = 1 + r.nextInt(5);
            int second = doing == 1 || doing == 5 ? r.nextInt(3) : r.nextInt(12) / 11;
            int third = doing == 1 ? r.nextInt(9) / 4 : doing == 4 ? r.nextInt(12) / 11 : r.nextInt(4);
            row = row * 1000 + 100 * doing + 10 * second + third;
        }
        return r.nextInt(15) == 0 ? r.nextLong() % 10000000000000L : row;
    }

    private void lookAt(int run, PleatRoads x, Random r) {
        int t = r.nextInt(7) - 1, k = r.nextInt(13) - 1, what = r.nextInt(8) - 1, o = r.nextInt(7) - 1;
        if (r.nextInt(4) > 0 && now.people.length > 0) {
            t = r.nextInt(now.people.length);
            o = r.nextInt(now.people.length);
        }
        if (r.nextInt(4) > 0) {
            k = r.nextInt(now.pleats.length + 1);
        }
        due(run, "pleat", x.pleat(k, what), pleat(k, what));
        due(run, "traveller", x.traveller(t, what), traveller(t, what));
        due(run, "reach " + t, x.reach(t), nobody(t) ? UNKNOWN : now.reach(t));
        due(run, "fewest " + t + " " + k, x.fewest(t, k),
                nobody(t) || noPlace(k) ? UNKNOWN : now.moves(t, true, 30)[k]);
        due(run, "shutIn", x.shutIn(), shutIn());
        due(run, "meet", x.meet(t, o), nobody(t) || nobody(o) ? UNKNOWN : now.reach(t) & now.reach(o));
        int n = r.nextInt(8) == 0 ? r.nextInt(8) - 2 : 1 + r.nextInt(4);
        long told = aRow(r, n);
        due(run, "judge " + n + " " + told, x.judge(n, told), judge(n, told));
        due(run, "who " + what, x.who(what), who(what));
        due(run, "who", x.who(0), who(0));
        due(run, "share", x.share(t, what > 2), share(t, what > 2));
        int asked = r.nextInt(10) == 0 ? what : r.nextInt(2);
        due(run, "rests " + t + " " + o, x.rests(t, o, asked), rests(t, o, asked));
        int m = r.nextInt(36) - 2;
        due(run, "summers " + m, x.summers(m), summers(m));
        for (int c = -1; c <= 11; c++) {
            due(run, "count " + c, x.count(c), count(c));
        }
        if (r.nextInt(8) == 0) {
            due(run, "wants " + t + " " + k, x.wants(t, k), wants(t, k));
            int tenths = r.nextInt(14) - 1;
            boolean upper = r.nextBoolean();
            due(run, "icy " + t + " " + k + " " + tenths, x.icy(t, k, tenths, upper), icy(t, k, tenths, upper));
        }
        if (r.nextInt(8) == 0) {
            long v = r.nextLong();
            due(run, "seed", x.seed(v), seed);
            seed = v;
        }
    }

    public static void main(String[] args) {
        int runs = args.length > 0 ? Integer.parseInt(args[0]) : RUNS;
        int offset = args.length > 1 ? Integer.parseInt(args[1]) : 0;
        for (int run = offset; run < offset + runs; run++) {
            Random r = new Random(run);
            PleatRoads x = new PleatRoads();
            ModelTest model = new ModelTest();
            int size = run % 5 == 0 ? 10 : 6;
            model.tell(run, x, r, size);
            for (int call = 0; call < CALLS; call++) {
                model.doOne(run, x, r);
                if (r.nextInt(8) == 0) {
                    model.lookAt(run, x, r);
                }
                if (r.nextInt(40) == 0) {
                    model.tell(run, x, r, size);
                }
            }
        }
        System.out.println(wrong == 0 ? "the model and the class agree" : wrong + " answers are not as due");
        if (wrong != 0) {
            System.exit(1);
        }
    }
}
