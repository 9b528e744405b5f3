import java.math.BigInteger;
import java.util.ArrayDeque;
import java.util.ArrayList;
import java.util.Arrays;
import java.util.BitSet;
import java.util.Deque;
import java.util.HashMap;
import java.util.List;
import java.util.Map;
import java.util.TreeSet;
import java.util.regex.Pattern;

/** Calls whose arguments are few enough, with all of them, each against a plain way to work the answer out. */
public final class WholeTest {
    private static final int NONE = DoubtCatcher.NONE;
    private static final int STATE = DoubtCatcher.STATE;
    private static final int MOST_CALLS = 512;
    /** HOUSES that are not neighbours in number, so that a mix-up of places and HOUSES shows. */
    private static final int[] FIVE = {0, 2, 3, 5, 7};

    private static int wrong = 0;
    private static DoubtCatcher used = new DoubtCatcher();
    private static int calls = 0;

    private static void due(String call, long got, long want) {
        if (got != want) {
            wrong++;
            if (wrong <= 40) {
                System.out.println(call + " answered " + got + ", due is " + want);
            }
        }
    }

    /** An object for calls that change nothing, made anew ere it has had its 512. */
    private static DoubtCatcher any(int callsToCome) {
        calls += callsToCome;
        if (calls > MOST_CALLS) {
            used = new DoubtCatcher();
            calls = callsToCome;
        }
        return used;
    }

    public static void main(String[] args) {
        everyTextOfThreeSigns();
        everyHouseAlone();
        everyTownOfFive();
        everyTwoRowsOfThree();
        everySetThatSightsLeave();
        everyChance();
        everySeed();
        System.out.println(wrong == 0 ? "all of them are as due" : wrong + " answers are wrong");
        if (wrong != 0) {
            System.exit(1);
        }
    }

    // ---- the FAULT

    private static void everyTextOfThreeSigns() {
        Pattern whole = Pattern.compile("([A-H][-+^_!]|o[A-H][A-H]|\\.)*");
        Pattern begun = Pattern.compile(whole + "([A-H]|o|o[A-H])?");
        char[] text = new char[3];
        for (int i = 0; i < 94 * 94 * 94; i++) {
            text[0] = (char) (33 + i / (94 * 94));
            text[1] = (char) (33 + i / 94 % 94);
            text[2] = (char) (33 + i % 94);
            DoubtCatcher x = any(5);
            for (char sign : text) {
                x.say(sign);
            }
            String t = new String(text);
            int place = 0;
            while (place < 3 && begun.matcher(t.substring(0, place + 1)).matches()) {
                place++;
            }
            due("fault() of " + t, x.fault(), whole.matcher(t).matches() ? NONE : place);
            x.wipe();
        }
    }

    // ---- ALONE

    private static void everyHouseAlone() {
        for (int i = 0; i < 10000; i++) {
            int d = i / 100;
            int c = i / 10 % 10;
            int k = i % 10;
            int clear = NONE;
            int full = NONE;
            int doubts = d;
            for (int week = 0; week < 500; week++) {
                clear = clear == NONE && doubts == 0 ? week : clear;
                full = full == NONE && doubts == 99 ? week : full;
                doubts += doubts < c ? doubts : c;
                doubts = doubts > 99 ? 99 : doubts;
                for (int cage = 0; cage < k && doubts > 0; cage++) {
                    doubts--;
                }
            }
            String call = "alone(" + d + ", " + c + ", " + k;
            due(call + ", 0)", any(1).alone(d, c, k, 0), clear);
            due(call + ", 1)", any(1).alone(d, c, k, 1), full);
        }
    }

    // ---- TERRIERS and CHASE

    private static void everyTownOfFive() {
        for (int set = 0; set < 1 << 10; set++) {
            boolean[][] holes = new boolean[8][8];
            DoubtCatcher x = new DoubtCatcher();
            int bit = 0;
            for (int i = 0; i < 5; i++) {
                for (int j = i + 1; j < 5; j++, bit++) {
                    if ((set >> bit & 1) == 1) {
                        holes[FIVE[i]][FIVE[j]] = true;
                        holes[FIVE[j]][FIVE[i]] = true;
                        x.hole(FIVE[i], FIVE[j], true);
                    }
                }
            }
            terriersOf(x, holes, set);
            chasesOf(x, holes, set);
        }
    }

    private static void terriersOf(DoubtCatcher x, boolean[][] holes, int set) {
        int best = 255;
        for (int in = 0; in < 256; in++) {
            boolean all = true;
            for (int h = 0; h < 64; h++) {
                all &= !holes[h / 8][h % 8] || (in >> h / 8 & 1) == 1 || (in >> h % 8 & 1) == 1;
            }
            if (all && Integer.bitCount(in) < Integer.bitCount(best)) {
                best = in;
            }
        }
        due("terriers(0) of town " + set, x.terriers(0), Integer.bitCount(best));
        due("terriers(1) of town " + set, x.terriers(1), best);
    }

    /** In how many goings he has it for sure, by both HOUSES, found by one going more each time. */
    private static void chasesOf(DoubtCatcher x, boolean[][] holes, int set) {
        int[][] goings = new int[8][8];
        for (int h = 0; h < 64; h++) {
            goings[h / 8][h % 8] = h / 8 == h % 8 ? 0 : NONE;
        }
        int[][] first = new int[8][8];
        for (int[] row : first) {
            Arrays.fill(row, NONE);
        }
        for (int many = 1; many < 70; many++) {
            for (int h = 0; h < 64; h++) {
                int c = h / 8;
                int r = h % 8;
                for (int to = 0; to < 8 && goings[c][r] == NONE; to++) {
                    if ((to == c || holes[c][to]) && caughtBehind(goings, holes, to, r, many)) {
                        goings[c][r] = many;
                        first[c][r] = to;
                    }
                }
            }
        }
        for (int h = 0; h < 64; h++) {
            String call = "chase(" + h / 8 + ", " + h % 8 + ", ";
            due(call + "0) of town " + set, x.chase(h / 8, h % 8, 0), goings[h / 8][h % 8]);
            due(call + "1) of town " + set, x.chase(h / 8, h % 8, 1), first[h / 8][h % 8]);
        }
    }

    private static boolean caughtBehind(int[][] goings, boolean[][] holes, int c, int r, int many) {
        if (c == r) {
            return true;
        }
        for (int to = 0; to < 8; to++) {
            boolean free = goings[c][to] == NONE || goings[c][to] >= many;
            if ((to == r || holes[r][to]) && free) {
                return false;
            }
        }
        return true;
    }

    // ---- HEARD

    private static void everyTwoRowsOfThree() {
        for (int n = 1, most = 10; n <= 3; n++, most *= 10) {
            BitSet[] rows = new BitSet[most];
            for (int row = 0; row < most; row++) {
                rows[row] = rowsIn(row, n);
            }
            for (int i = 0; i < most * most; i++) {
                BitSet both = (BitSet) rows[i / most].clone();
                both.and(rows[i % most]);
                int best = both.nextSetBit(0);
                String call = "heard(" + i / most + ", " + i % most + ", " + n;
                due(call + ", 0)", any(1).heard(i / most, i % most, n, 0), 3 - best / 1000);
                due(call + ", 1)", any(1).heard(i / most, i % most, n, 1), best % 1000);
            }
        }
    }

    /** Every row that lies in this one, the longer ahead, then the lesser: thousands tell how many digits less than 3. */
    private static BitSet rowsIn(int row, int n) {
        BitSet in = new BitSet();
        for (int kept = 0; kept < 1 << n; kept++) {
            int number = 0;
            for (int place = n - 1; place >= 0; place--) {
                int digit = row / (int) Math.pow(10, place) % 10;
                number = (kept >> place & 1) == 1 ? number * 10 + digit : number;
            }
            in.set(1000 * (3 - Integer.bitCount(kept)) + number);
        }
        return in;
    }

    // ---- FITS and ASK

    private static int[] bred(int ac) {
        int[] doubts = new int[41];
        doubts[0] = ac / 10;
        for (int week = 1; week <= 40; week++) {
            int were = doubts[week - 1];
            doubts[week] = Math.min(99, Math.min(2 * were, were + ac % 10));
        }
        return doubts;
    }

    /** SIGHTS leave but some 500 sets, so each is asked about once, and none of them only behind more than two SIGHTS. */
    private static void everySetThatSightsLeave() {
        Map<TreeSet<Integer>, List<int[]>> sightsOf = new HashMap<>();
        Deque<TreeSet<Integer>> open = new ArrayDeque<>();
        TreeSet<Integer> all = new TreeSet<>();
        for (int ac = 10; ac < 100; ac++) {
            all.add(ac);
        }
        sightsOf.put(all, new ArrayList<>());
        open.add(all);
        while (!open.isEmpty()) {
            TreeSet<Integer> set = open.remove();
            List<int[]> sights = sightsOf.get(set);
            fitsAndAsk(set, sights);
            for (int week = 0; week <= 40; week++) {
                for (TreeSet<Integer> left : splitBy(set, week).values()) {
                    if (!sightsOf.containsKey(left)) {
                        List<int[]> more = new ArrayList<>(sights);
                        more.add(new int[] {week, bred(left.first())[week]});
                        sightsOf.put(left, more);
                        open.add(left);
                    }
                }
            }
        }
        due("sets that SIGHTS leave", sightsOf.size(), 516);
    }

    private static Map<Integer, TreeSet<Integer>> splitBy(TreeSet<Integer> set, int week) {
        Map<Integer, TreeSet<Integer>> parts = new HashMap<>();
        for (int ac : set) {
            parts.computeIfAbsent(bred(ac)[week], v -> new TreeSet<>()).add(ac);
        }
        return parts;
    }

    private static void fitsAndAsk(TreeSet<Integer> set, List<int[]> sights) {
        DoubtCatcher x = new DoubtCatcher();
        StringBuilder told = new StringBuilder(" behind SIGHTS");
        for (int[] sight : sights) {
            x.gnawed(sight[0], sight[1]);
            told.append(" ").append(sight[0]).append(":").append(sight[1]);
        }
        due("fits(-1)" + told, x.fits(-1), set.size());
        int i = 0;
        for (int ac : set) {
            due("fits(" + i + ")" + told, x.fits(i), ac);
            i++;
        }
        due("fits(" + i + ")" + told, x.fits(i), NONE);
        int best = 0;
        int left = 1000;
        for (int week = 0; week <= 40; week++) {
            int most = 0;
            for (TreeSet<Integer> part : splitBy(set, week).values()) {
                most = Math.max(most, part.size());
            }
            best = most < left ? week : best;
            left = Math.min(most, left);
        }
        due("ask(0)" + told, x.ask(0), best);
        due("ask(1)" + told, x.ask(1), left);
    }

    // ---- EVER

    /** Only one row of chances is 1 at 0, 0 at n and between them what the next night makes of it. */
    private static void everyChance() {
        for (int n = 1; n <= 16; n++) {
            for (int t = 1; t <= 9; t++) {
                BigInteger[] up = new BigInteger[n + 1];
                BigInteger[] low = new BigInteger[n + 1];
                for (int k = 0; k <= n; k++) {
                    up[k] = BigInteger.valueOf(any(1).ever(n, k, t, 0));
                    low[k] = BigInteger.valueOf(any(1).ever(n, k, t, 1));
                    String call = "ever(" + n + ", " + k + ", " + t;
                    due(call + "): in lowest terms", up[k].gcd(low[k]).longValue(), 1);
                    due(call + ", 1) is above 0", low[k].signum(), 1);
                }
                due("ever(" + n + ", 0, " + t + ", 0)", up[0].longValue(), low[0].longValue());
                due("ever(" + n + ", n, " + t + ", 0)", up[n].longValue(), 0);
                for (int k = 1; k < n; k++) {
                    due("ever(" + n + ", " + k + ", " + t + ") by the next night", isOfNextNight(up, low, k, t) ? 1 : 0, 1);
                }
            }
        }
    }

    private static boolean isOfNextNight(BigInteger[] up, BigInteger[] low, int k, int t) {
        BigInteger now = up[k].multiply(BigInteger.TEN).multiply(low[k + 1]).multiply(low[k - 1]);
        BigInteger more = up[k + 1].multiply(BigInteger.valueOf(t)).multiply(low[k - 1]).multiply(low[k]);
        BigInteger less = up[k - 1].multiply(BigInteger.valueOf(10 - t)).multiply(low[k + 1]).multiply(low[k]);
        return now.equals(more.add(less));
    }

    // ---- A YEAR

    /** A YEAR is what its ACTS make, said and DONE one by one, those that can not be left out. */
    private static void everySeed() {
        for (int seed = 0; seed <= 9999; seed++) {
            int m = 1 + seed % 99;
            DoubtCatcher drawn = townOf(seed);
            DoubtCatcher said = townOf(seed);
            int x = seed;
            for (int i = 0; i < m; i++) {
                x = (75 * x + 74) % 65537;
                sayAndDo(said, textOf(x));
            }
            int doubts = 0;
            for (int h = 0; h < 8; h++) {
                doubts += said.told(100 + 10 * h);
            }
            String call = "year(" + seed + ", " + m;
            due(call + ", 0)", drawn.year(seed, m, 0), doubts);
            due(call + ", 1)", drawn.year(seed, m, 1), said.told(3));
            due(call + ", 2)", drawn.year(seed, m, 2), Integer.bitCount(said.told(1)));
        }
    }

    private static DoubtCatcher townOf(int seed) {
        DoubtCatcher x = new DoubtCatcher();
        x.house(seed % 8, 30 + seed % 70, seed % 10, 0, seed % 4);
        x.house((seed + 3) % 8, seed % 12, 9 - seed % 10, 2, 0);
        x.hole(seed % 8, (seed + 3) % 8, true);
        return x;
    }

    private static String textOf(int x) {
        char house = (char) ('A' + x % 8);
        int z = x / 64;
        switch (x / 8 % 8) {
            case 0:
                return house + "+";
            case 1:
                return house + "-";
            case 2:
                return house + "^";
            case 3:
                return house + "_";
            case 4:
                return z % 4 == 0 ? house + "!" : "";
            case 5:
                return "o" + house + (char) ('A' + z % 8);
            default:
                return ".";
        }
    }

    private static void sayAndDo(DoubtCatcher x, String text) {
        for (char sign : text.toCharArray()) {
            x.say(sign);
        }
        if (!text.isEmpty() && x.done() == STATE) {
            x.wipe();
        }
    }
}
