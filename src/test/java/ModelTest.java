import java.math.BigInteger;
import java.util.ArrayList;
import java.util.Arrays;
import java.util.HashSet;
import java.util.List;
import java.util.Random;
import java.util.Set;
import java.util.regex.Matcher;
import java.util.regex.Pattern;

/** Drawn runs of calls on the class and on a second, plainer writing of the document. */
public final class ModelTest {
    private static final int RUNS = 1500;
    /** An object answers as promised for 512 calls; one turn of a run makes fewer than 90. */
    private static final int CALLS = 512 - 90;
    private static final int NONE = -6, NO = -5, FULL = -4, STATE = -3, OUTSIDE = -2, UNKNOWN = -1;
    private static int wrong = 0;
    private static int calls = 0;

    public static void main(String[] args) {
        for (int run = 0; run < RUNS && wrong < 20; run++) {
            run(run);
        }
        everyEver();
        everyAlone();
        System.out.println(wrong == 0 ? "class and model agree" : wrong + " answers differ");
        if (wrong != 0) {
            System.exit(1);
        }
    }

    private static void due(String call, long got, long want) {
        calls++;
        if (got != want) {
            wrong++;
            System.out.println(call + " answered " + got + ", the model " + want);
        }
    }

    // ---- runs

    private static void run(int seed) {
        Random r = new Random(seed);
        DoubtCatcher x = new DoubtCatcher();
        Model m = new Model();
        calls = 0;
        // Drawn calls alone seldom come to week 99.
        for (int i = 0; seed % 4 == 0 && i < 92; i++) {
            due("a week", x.say('.'), m.say('.'));
            if (i % 46 == 45) {
                due("46 weeks", x.done(), m.done());
            }
        }
        for (int i = 0; calls < CALLS && wrong < 20; i++) {
            call(r, x, m, "run " + seed + " call " + i + " ");
        }
    }

    /** From 0 to most, now and then beyond. */
    private static int num(Random r, int most) {
        int turn = r.nextInt(40);
        if (turn == 0) {
            return -1 - r.nextInt(3);
        }
        if (turn == 1) {
            return most + 1 + r.nextInt(3);
        }
        if (turn == 2 && r.nextInt(4) == 0) {
            return r.nextInt();
        }
        return turn < 6 ? most : r.nextInt(most + 1);
    }

    private static void call(Random r, DoubtCatcher x, Model m, String where) {
        int a = num(r, 7), b = num(r, 7), what = num(r, 4);
        switch (r.nextInt(26)) {
            case 0: {
                int d = num(r, 99), c = num(r, 9), k = num(r, 9), s = r.nextBoolean() ? 0 : num(r, 9);
                due(where + "house", x.house(a, d, c, k, s), m.house(a, d, c, k, s));
                break;
            }
            case 1:
            case 2: {
                boolean is = r.nextInt(3) > 0;
                due(where + "hole", x.hole(a, b, is), m.hole(a, b, is));
                break;
            }
            case 3: {
                int v = r.nextInt(3) == 0 ? 0 : num(r, 99);
                due(where + "bag", x.bag(v), m.bag(v));
                break;
            }
            case 4:
            case 5:
            case 6:
            case 7:
            case 8: {
                String text = text(r);
                for (int i = 0; i < text.length(); i++) {
                    due(where + "say", x.say(text.charAt(i)), m.say(text.charAt(i)));
                }
                due(where + "fault", x.fault(), m.fault());
                askOfPad(x, m, where);
                break;
            }
            case 9:
                due(where + "say", x.say(30 + a), m.say(30 + a));
                due(where + "fault", x.fault(), m.fault());
                break;
            case 10:
                due(where + "wipe", x.wipe(), m.wipe());
                break;
            case 11:
                due(where + "judge", x.judge(what), m.judge(what));
                due(where + "behind", x.behind(a, what), m.behind(a, what));
                due(where + "town", x.town(what), m.town(what));
                due(where + "rid", x.rid(what), m.rid(what));
                break;
            case 12:
            case 13:
                due(where + "done", x.done(), m.done());
                if (r.nextBoolean()) {
                    due(where + "wipe", x.wipe(), m.wipe());
                }
                break;
            case 14:
                due(where + "terriers", x.terriers(what), m.terriers(what));
                due(where + "terriers", x.terriers(1), m.terriers(1));
                break;
            case 15:
                hear(r, x, m, where);
                break;
            case 16:
            case 17: {
                int week = r.nextBoolean() ? num(r, 40) : num(r, 5);
                int v = r.nextInt(5) == 0 ? num(r, 99) : Model.bred(1 + r.nextInt(9), r.nextInt(10), Math.max(0, Math.min(40, week)));
                due(where + "gnawed", x.gnawed(week, v), m.gnawed(week, v));
                break;
            }
            case 18:
                due(where + "forget", x.forget(), m.forget());
                break;
            case 19: {
                int i = num(r, 8);
                due(where + "fits", x.fits(i), m.fits(i));
                due(where + "fits", x.fits(-1), m.fits(-1));
                break;
            }
            case 20:
                if (r.nextInt(4) == 0) {
                    int w = r.nextInt(2);
                    due(where + "ask", x.ask(w), m.ask(w));
                }
                due(where + "ask", x.ask(5), m.ask(5));
                break;
            case 21:
                due(where + "chase", x.chase(a, b, what), m.chase(a, b, what));
                due(where + "chase", x.chase(a, b, 0), m.chase(a, b, 0));
                due(where + "chase", x.chase(a, b, 1), m.chase(a, b, 1));
                break;
            case 22: {
                int seed = num(r, 9999), acts = num(r, 99), w = num(r, 2);
                due(where + "year", x.year(seed, acts, w), m.year(seed, acts, w));
                break;
            }
            case 23:
                due(where + "image", x.image(a % 3), m.image(a % 3));
                break;
            case 24:
                due(where + "restore", x.restore(a % 3), m.restore(a % 3));
                break;
            default: {
                int w = num(r, 185);
                due(where + "told " + w, x.told(w), m.told(w));
                break;
            }
        }
        for (int w : new int[] {0, 1, 2, 3, 4, 5, 10 + (seedless(a)), 100 + 10 * seedless(b) + seedless(what) % 4}) {
            due(where + "told " + w, x.told(w), m.told(w));
        }
    }

    private static int seedless(int v) {
        return Math.floorMod(v, 8);
    }

    private static void askOfPad(DoubtCatcher x, Model m, String where) {
        for (int w = 0; w < 3; w++) {
            due(where + "judge " + w, x.judge(w), m.judge(w));
        }
        for (int w = 0; w < 5; w++) {
            due(where + "town " + w, x.town(w), m.town(w));
        }
        for (int h = 0; h < 8; h++) {
            due(where + "behind " + h, x.behind(h, h % 4), m.behind(h, h % 4));
            due(where + "behind " + h, x.behind(h, 0), m.behind(h, 0));
        }
        due(where + "rid", x.rid(0), m.rid(0));
        due(where + "rid", x.rid(1), m.rid(1));
    }

    private static void hear(Random r, DoubtCatcher x, Model m, String where) {
        int n = num(r, 9);
        int base = 2 + r.nextInt(9);
        int one = row(r, n, base), other = row(r, n, base);
        for (int w = 0; w < 3; w++) {
            due(where + "heard " + one + " " + other + " " + n, x.heard(one, other, n, w), m.heard(one, other, n, w));
        }
    }

    private static int row(Random r, int n, int base) {
        int row = 0;
        for (int i = 0; i < Math.min(9, n); i++) {
            row = 10 * row + r.nextInt(base);
        }
        return r.nextInt(30) == 0 ? row * 10 : row;
    }

    private static String text(Random r) {
        StringBuilder text = new StringBuilder();
        int acts = r.nextInt(9);
        int houses = 1 + r.nextInt(8);
        for (int i = 0; i < acts; i++) {
            char one = (char) ('A' + r.nextInt(houses)), other = (char) ('A' + r.nextInt(8));
            int kind = r.nextInt(12);
            if (kind < 5) {
                text.append(one).append("+-^_!".charAt(kind));
            } else if (kind < 7) {
                text.append('o').append(one).append(other);
            } else {
                text.append('.');
            }
        }
        if (r.nextInt(12) == 0) {
            text.append((char) (33 + r.nextInt(94)));
        }
        return text.toString();
    }

    // ---- all there is to ask

    private static void everyAlone() {
        for (int d = 0; d < 100; d++) {
            DoubtCatcher x = new DoubtCatcher();
            for (int c = 0; c < 10; c++) {
                for (int k = 0; k < 10; k++) {
                    Model m = new Model();
                    m.house[0] = new int[] {d, c, k, 0};
                    due("alone " + d + " " + c + " " + k, x.alone(d, c, k, 0), weeksUntil(m, 0));
                    m.house[0] = new int[] {d, c, k, 0};
                    due("alone " + d + " " + c + " " + k, x.alone(d, c, k, 1), weeksUntil(m, 99));
                }
            }
        }
    }

    private static int weeksUntil(Model m, int wanted) {
        for (int week = 0; week < 300; week++) {
            if (m.house[0][0] == wanted) {
                return week;
            }
            m.pass();
        }
        return NONE;
    }

    private static void everyEver() {
        for (int n = 1; n <= 16; n++) {
            DoubtCatcher x = new DoubtCatcher();
            for (int t = 1; t <= 9; t++) {
                BigInteger[][] p = chances(n, t);
                for (int k = 0; k <= n; k++) {
                    due("ever " + n + " " + k + " " + t + " upper", x.ever(n, k, t, 0), p[k][0].longValueExact());
                    due("ever " + n + " " + k + " " + t + " lower", x.ever(n, k, t, 1), p[k][1].longValueExact());
                }
            }
        }
    }

    /** From p(k) = t/10 p(k+1) + (10-t)/10 p(k-1): with s(k) = p(k) - p(k+1), s(k) is s(k-1) by t/(10-t) .. times, in all 1. */
    private static BigInteger[][] chances(int n, int t) {
        BigInteger[] step = new BigInteger[n];
        BigInteger all = BigInteger.ZERO;
        for (int k = 0; k < n; k++) {
            step[k] = BigInteger.valueOf(10 - t).pow(k).multiply(BigInteger.valueOf(t).pow(n - 1 - k));
            all = all.add(step[k]);
        }
        BigInteger[][] p = new BigInteger[n + 1][];
        BigInteger left = all;
        for (int k = 0; k <= n; k++) {
            BigInteger shared = left.gcd(all);
            p[k] = new BigInteger[] {left.divide(shared), all.divide(shared)};
            if (k < n) {
                left = left.subtract(step[k]);
            }
        }
        return p;
    }

    // ---- the model

    private static final class Model {
        static final Pattern ACT = Pattern.compile("[A-H][-+^_!]|o[A-H][A-H]|\\.");
        static final Pattern BEGUN = Pattern.compile("[A-H]?|o[A-H]?");

        int[][] house = new int[8][4];
        Set<List<Integer>> holes = new HashSet<>();
        int bag = 9, sack, week;
        StringBuilder pad = new StringBuilder();
        List<int[]> sights = new ArrayList<>();
        Model[] images = new Model[2];
        // what following the PAD told
        int badAct, why, acts, ridAct, ridHouse;

        Model copy() {
            Model m = new Model();
            for (int h = 0; h < 8; h++) {
                m.house[h] = house[h].clone();
            }
            m.holes = new HashSet<>(holes);
            m.bag = bag;
            m.sack = sack;
            m.week = week;
            m.sights = new ArrayList<>(sights);
            return m;
        }

        void take(Model that) {
            Model m = that.copy();
            house = m.house;
            holes = m.holes;
            bag = m.bag;
            sack = m.sack;
            week = m.week;
            sights = m.sights;
        }

        static boolean out(int v, int least, int most) {
            return v < least || v > most;
        }

        int house(int h, int d, int c, int k, int s) {
            if (out(h, 0, 7)) {
                return UNKNOWN;
            }
            if (out(d, 0, 99) || out(c, 0, 9) || out(k, 0, 9) || out(s, 0, 9)) {
                return OUTSIDE;
            }
            int were = house[h][0];
            house[h] = new int[] {d, c, k, s};
            return were;
        }

        boolean open(int a, int b) {
            return holes.contains(List.of(Math.min(a, b), Math.max(a, b)));
        }

        void put(int a, int b, boolean is) {
            List<Integer> hole = List.of(Math.min(a, b), Math.max(a, b));
            if (is) {
                holes.add(hole);
            } else {
                holes.remove(hole);
            }
        }

        int hole(int a, int b, boolean is) {
            if (out(a, 0, 7) || out(b, 0, 7) || a == b) {
                return UNKNOWN;
            }
            put(a, b, is);
            return holes.size();
        }

        int bag(int v) {
            if (out(v, 0, 99)) {
                return OUTSIDE;
            }
            int were = bag;
            bag = v;
            return were;
        }

        int say(int sign) {
            if (out(sign, 33, 126)) {
                return OUTSIDE;
            }
            if (pad.length() == 60) {
                return FULL;
            }
            pad.append((char) sign);
            return pad.length();
        }

        int wipe() {
            int were = pad.length();
            pad.setLength(0);
            return were;
        }

        /** The shortest beginning of the PAD that begins no text of ACTS ends with THE FAULT. */
        int fault() {
            for (int n = 0; n <= pad.length(); n++) {
                String rest = rest(pad.substring(0, n));
                if (!BEGUN.matcher(rest).matches()) {
                    return n - 1;
                }
            }
            return rest(pad.toString()).isEmpty() ? NONE : pad.length();
        }

        static String rest(String text) {
            Matcher m = ACT.matcher(text);
            int at = 0;
            while (m.find(at) && m.start() == at) {
                at = m.end();
            }
            return text.substring(at);
        }

        int clear() {
            int set = 0;
            for (int h = 0; h < 8; h++) {
                set += house[h][0] == 0 ? 1 << h : 0;
            }
            return set;
        }

        int all() {
            return Arrays.stream(house).mapToInt(h -> h[0]).sum();
        }

        /** 0, or why not; then nothing is done. */
        int act(String act) {
            if (act.equals(".")) {
                if (week == 99) {
                    return 5;
                }
                pass();
                return 0;
            }
            if (act.charAt(0) == 'o') {
                int a = act.charAt(1) - 'A', b = act.charAt(2) - 'A';
                if (a == b) {
                    return 4;
                }
                put(a, b, !open(a, b));
                return 0;
            }
            int[] h = house[act.charAt(0) - 'A'];
            char deed = act.charAt(1);
            if (deed == '+' && h[1] == 9 || deed == '-' && h[1] == 0 || deed == '^' && h[2] == 9 || deed == '_' && h[2] == 0) {
                return 1;
            }
            if (deed == '^' && bag == 0) {
                return 2;
            }
            if (deed == '!' && h[0] == 0) {
                return 3;
            }
            h[1] += deed == '+' ? 1 : deed == '-' ? -1 : 0;
            h[2] += deed == '^' ? 1 : deed == '_' ? -1 : 0;
            bag += deed == '^' ? -1 : deed == '_' && bag < 99 ? 1 : 0;
            if (deed == '!') {
                h[0] = (h[0] - h[0] % 2) / 2;
                h[3] = 3;
            }
            return 0;
        }

        void pass() {
            for (int[] h : house) {
                int more = h[1] > h[0] ? h[0] : h[1];
                h[0] = h[0] + more > 99 ? 99 : h[0] + more;
            }
            for (int[] h : house) {
                for (int k = 0; k < h[2] && h[0] > 0; k++) {
                    h[0]--;
                    sack++;
                }
            }
            int[] change = new int[8];
            for (int h = 0; h < 8; h++) {
                if (house[h][0] < 10 && house[h][3] == 0 || house[h][0] == 0) {
                    continue;
                }
                int to = -1;
                for (int o = 7; o >= 0; o--) {
                    if (o != h && open(h, o) && (to < 0 || house[o][0] <= house[to][0])) {
                        to = o;
                    }
                }
                if (to >= 0) {
                    change[h]--;
                    change[to]++;
                }
            }
            for (int h = 0; h < 8; h++) {
                house[h][0] = Math.min(99, house[h][0] + change[h]);
                house[h][3] -= house[h][3] > 0 ? 1 : 0;
            }
            week++;
        }

        Model followed() {
            Model m = copy();
            badAct = why = ridAct = ridHouse = NONE;
            acts = 0;
            Matcher text = ACT.matcher(pad);
            while (text.find()) {
                int ahead = m.clear();
                int reason = m.act(text.group());
                if (reason != 0) {
                    badAct = acts;
                    why = reason;
                    return m;
                }
                int fresh = m.clear() & ~ahead;
                if (fresh != 0 && ridAct == NONE) {
                    ridAct = acts;
                    ridHouse = Integer.numberOfTrailingZeros(fresh);
                }
                acts++;
            }
            return m;
        }

        int judge(int what) {
            if (out(what, 0, 2)) {
                return OUTSIDE;
            }
            if (fault() != NONE) {
                return NO;
            }
            Model m = followed();
            if (what == 2) {
                return badAct != NONE ? STATE : m.sack - sack;
            }
            return what == 0 ? badAct : why;
        }

        int behind(int h, int what) {
            if (out(h, 0, 7)) {
                return UNKNOWN;
            }
            if (out(what, 0, 3)) {
                return OUTSIDE;
            }
            int no = judge(2);
            return no < 0 ? no : followed().house[h][what];
        }

        int town(int what) {
            if (out(what, 0, 4)) {
                return OUTSIDE;
            }
            int no = judge(2);
            if (no < 0) {
                return no;
            }
            Model m = followed();
            return new int[] {m.all(), m.bag, m.sack, m.week, m.clear()}[what];
        }

        int rid(int what) {
            if (out(what, 0, 1)) {
                return OUTSIDE;
            }
            int no = judge(2);
            return no < 0 ? no : what == 0 ? ridAct : ridHouse;
        }

        int done() {
            int no = judge(2);
            if (no < 0) {
                return no;
            }
            take(followed());
            pad.setLength(0);
            return acts;
        }

        int terriers(int what) {
            if (out(what, 0, 1)) {
                return OUTSIDE;
            }
            int best = 255;
            for (int set = 255; set >= 0; set--) {
                boolean met = true;
                for (List<Integer> hole : holes) {
                    met &= (set >> hole.get(0) & 1) + (set >> hole.get(1) & 1) > 0;
                }
                if (met && Integer.bitCount(set) <= Integer.bitCount(best)) {
                    best = set;
                }
            }
            return what == 0 ? Integer.bitCount(best) : best;
        }

        int heard(int one, int other, int n, int what) {
            if (out(n, 1, 9) || out(what, 0, 1) || one < 0 || other < 0 || one >= Math.pow(10, n) || other >= Math.pow(10, n)) {
                return OUTSIDE;
            }
            String a = String.format("%0" + n + "d", one), b = String.format("%0" + n + "d", other);
            String best = "";
            for (int set = 0; set < 1 << n; set++) {
                StringBuilder part = new StringBuilder();
                for (int i = 0; i < n; i++) {
                    if ((set >> i & 1) == 1) {
                        part.append(a.charAt(i));
                    }
                }
                String row = part.toString();
                if ((row.length() > best.length() || row.length() == best.length() && row.compareTo(best) < 0) && inside(row, b)) {
                    best = row;
                }
            }
            return what == 0 ? best.length() : best.isEmpty() ? 0 : Integer.parseInt(best);
        }

        static boolean inside(String row, String text) {
            int at = 0;
            for (int i = 0; i < row.length(); i++) {
                at = text.indexOf(row.charAt(i), at) + 1;
                if (at == 0) {
                    return false;
                }
            }
            return true;
        }

        int gnawed(int weeks, int v) {
            if (out(weeks, 0, 40) || out(v, 0, 99)) {
                return OUTSIDE;
            }
            if (sights.size() == 8) {
                return FULL;
            }
            sights.add(new int[] {weeks, v});
            return sights.size();
        }

        int forget() {
            int were = sights.size();
            sights = new ArrayList<>();
            return were;
        }

        static int bred(int a, int c, int weeks) {
            int d = a;
            for (int i = 0; i < weeks; i++) {
                d = Math.min(99, d + Math.min(c, d));
            }
            return d;
        }

        List<Integer> fitting() {
            List<Integer> fit = new ArrayList<>();
            for (int ac = 10; ac <= 99; ac++) {
                boolean so = true;
                for (int[] s : sights) {
                    so &= bred(ac / 10, ac % 10, s[0]) == s[1];
                }
                if (so) {
                    fit.add(ac);
                }
            }
            return fit;
        }

        int fits(int i) {
            List<Integer> fit = fitting();
            if (i == -1) {
                return fit.size();
            }
            return i < 0 || i >= fit.size() ? NONE : fit.get(i);
        }

        int ask(int what) {
            if (out(what, 0, 1)) {
                return OUTSIDE;
            }
            List<Integer> fit = fitting();
            if (fit.isEmpty()) {
                return NONE;
            }
            int week = -1, left = 1000;
            for (int w = 0; w <= 40; w++) {
                int[] many = new int[100];
                for (int ac : fit) {
                    many[bred(ac / 10, ac % 10, w)]++;
                }
                int most = Arrays.stream(many).max().getAsInt();
                if (most < left) {
                    left = most;
                    week = w;
                }
            }
            return what == 0 ? week : left;
        }

        boolean near(int a, int b) {
            return a == b || open(a, b);
        }

        /** By goings that are left: has he it for sure, he being next to go? */
        int chase(int c, int r, int what) {
            if (out(c, 0, 7) || out(r, 0, 7)) {
                return UNKNOWN;
            }
            if (out(what, 0, 1)) {
                return OUTSIDE;
            }
            if (c == r) {
                return what == 0 ? 0 : NONE;
            }
            boolean[][] sure = new boolean[8][8];
            for (int h = 0; h < 8; h++) {
                sure[h][h] = true;
            }
            for (int goings = 1; goings <= 60; goings++) {
                boolean[][] next = new boolean[8][8];
                for (int i = 0; i < 8; i++) {
                    for (int j = 0; j < 8; j++) {
                        next[i][j] = i == j || firstFor(i, j, sure) >= 0;
                    }
                }
                if (next[c][r]) {
                    return what == 0 ? goings : firstFor(c, r, sure);
                }
                sure = next;
            }
            return NONE;
        }

        int firstFor(int c, int r, boolean[][] sure) {
            for (int to = 0; to < 8; to++) {
                if (near(c, to)) {
                    boolean has = true;
                    for (int flight = 0; flight < 8; flight++) {
                        has &= !near(r, flight) || sure[to][flight];
                    }
                    if (has || to == r) {
                        return to;
                    }
                }
            }
            return -1;
        }

        int year(int seed, int acts, int what) {
            if (out(seed, 0, 9999) || out(acts, 1, 99) || out(what, 0, 2)) {
                return OUTSIDE;
            }
            Model m = copy();
            long x = seed;
            for (int i = 0; i < acts; i++) {
                x = (75 * x + 74) % 65537;
                String letter = String.valueOf((char) ('A' + x % 8));
                long z = x / 64;
                int kind = (int) (x / 8 % 8);
                if (kind < 4 || kind == 4 && z % 4 == 0) {
                    m.act(letter + "+-^_!".charAt(kind));
                } else if (kind == 5) {
                    m.act("o" + letter + (char) ('A' + z % 8));
                } else if (kind > 5) {
                    m.act(".");
                }
            }
            return what == 0 ? m.all() : what == 1 ? m.sack : Integer.bitCount(m.clear());
        }

        int image(int k) {
            if (out(k, 0, 1)) {
                return OUTSIDE;
            }
            images[k] = copy();
            return 1;
        }

        int restore(int k) {
            if (out(k, 0, 1)) {
                return OUTSIDE;
            }
            if (images[k] == null) {
                return STATE;
            }
            take(images[k]);
            return 1;
        }

        int told(int what) {
            if (what >= 0 && what <= 5) {
                return new int[] {pad.length(), clear(), bag, sack, week, sights.size()}[what];
            }
            if (what >= 10 && what <= 17) {
                int set = 0;
                for (int h = 0; h < 8; h++) {
                    set += h != what - 10 && open(what - 10, h) ? 1 << h : 0;
                }
                return set;
            }
            if (what >= 100 && what < 180 && what % 10 < 4) {
                return house[what / 10 - 10][what % 10];
            }
            return OUTSIDE;
        }
    }
}
