import java.util.Arrays;

/** The ratcatcher's book of HOUSES, their DOUBTS and the HOLES between them; ../shared/DOC.md has the promises. */
public final class DoubtCatcher {
    public static final int UNKNOWN = -1, OUTSIDE = -2, STATE = -3, FULL = -4, NO = -5, NONE = -6;
    public static final long GONE = -1000000000000000000L;

    private static final int HOUSES = 8;
    private static final int MOST_DOUBTS = 99;
    private static final int MOST_OF_SMALL = 9;
    private static final int MOST_IN_BAG = 99;
    private static final int LAST_WEEK = 99;
    private static final int CROWD = 10;
    private static final int ARSENIC_WEEKS = 3;

    private static final int MOST_SIGNS = 60;
    private static final int FIRST_SIGN = 33;
    private static final int LAST_SIGN = 126;
    private static final int FIRST_LETTER = 'A';
    private static final int MORE = '+';
    private static final int LESS = '-';
    private static final int SET = '^';
    private static final int BACK = '_';
    private static final int ARSENIC = '!';
    private static final int HOLE = 'o';
    private static final int WEEK = '.';

    private static final int MOST_SIGHTS = 8;
    private static final int LAST_SIGHT_WEEK = 40;
    private static final int MOST_BRED = 90;
    private static final int MOST_DIGITS = 9;
    private static final int[] TENS = {
        1, 10, 100, 1000, 10000, 100000, 1000000, 10000000, 100000000, 1000000000};

    private static final int MOST_GIVEN_UP = 16;
    private static final int TENTHS = 10;

    private static final int LAST_SEED = 9999;
    private static final int MOST_YEAR_ACTS = 99;
    private static final int[] YEAR_SIGNS = {MORE, LESS, SET, BACK, ARSENIC, HOLE, WEEK, WEEK};

    private static final int IMAGES = 2;

    private final Town now;
    /** The town on which ACTS are tried: what is asked must not change what is. */
    private final Town tried;
    private final Pad pad;
    private final Act act;
    private final Telling telling;
    private final Sights sights;
    private final Asking asking;
    private final Hearing hearing;
    private final Hunt hunt;
    private final Image[] images;

    public DoubtCatcher() {
        now = new Town();
        tried = new Town();
        pad = new Pad();
        act = new Act();
        telling = new Telling();
        sights = new Sights();
        asking = new Asking();
        hearing = new Hearing();
        hunt = new Hunt();
        images = new Image[IMAGES];
        for (int k = 0; k < IMAGES; k++) {
            images[k] = new Image();
        }
    }

    // ---- 1 houses, holes

    public int house(int house, int doubts, int crumbs, int cages, int smell) {
        if (!isHouse(house)) {
            return UNKNOWN;
        }
        if (!within(doubts, 0, MOST_DOUBTS) || !within(crumbs, 0, MOST_OF_SMALL)
                || !within(cages, 0, MOST_OF_SMALL) || !within(smell, 0, MOST_OF_SMALL)) {
            return OUTSIDE;
        }
        int were = now.doubts[house];
        now.doubts[house] = doubts;
        now.crumbs[house] = crumbs;
        now.cages[house] = cages;
        now.smells[house] = smell;
        return were;
    }

    public int hole(int one, int other, boolean is) {
        if (!isHouse(one) || !isHouse(other) || one == other) {
            return UNKNOWN;
        }
        if (now.hasHole(one, other) != is) {
            now.turnHole(one, other);
        }
        return now.countHoles();
    }

    public int bag(int v) {
        if (!within(v, 0, MOST_IN_BAG)) {
            return OUTSIDE;
        }
        int were = now.bag;
        now.bag = v;
        return were;
    }

    public int say(int sign) {
        if (!within(sign, FIRST_SIGN, LAST_SIGN)) {
            return OUTSIDE;
        }
        return pad.add(sign) ? pad.count : FULL;
    }

    public int wipe() {
        int were = pad.count;
        pad.count = 0;
        return were;
    }

    public int fault() {
        return pad.faultPlace();
    }

    // ---- 2 weeks

    public int judge(int what) {
        if (!within(what, 0, 2)) {
            return OUTSIDE;
        }
        int refusal = tryPad();
        if (refusal == NO) {
            return NO;
        }
        switch (what) {
            case 0:
                return telling.badAct;
            case 1:
                return telling.why;
            default:
                return refusal == STATE ? STATE : tried.sack - now.sack;
        }
    }

    public int behind(int house, int what) {
        if (!isHouse(house)) {
            return UNKNOWN;
        }
        if (!within(what, 0, 3)) {
            return OUTSIDE;
        }
        int refusal = tryPad();
        return refusal != 0 ? refusal : tried.ofHouse(house, what);
    }

    public int town(int what) {
        if (!within(what, 0, 4)) {
            return OUTSIDE;
        }
        int refusal = tryPad();
        if (refusal != 0) {
            return refusal;
        }
        switch (what) {
            case 0:
                return tried.allDoubts();
            case 1:
                return tried.bag;
            case 2:
                return tried.sack;
            case 3:
                return tried.week;
            default:
                return tried.clearHouses();
        }
    }

    public int rid(int what) {
        if (!within(what, 0, 1)) {
            return OUTSIDE;
        }
        int refusal = tryPad();
        if (refusal != 0) {
            return refusal;
        }
        return what == 0 ? telling.ridAct : telling.ridHouse;
    }

    public int done() {
        int refusal = tryPad();
        if (refusal != 0) {
            return refusal;
        }
        now.become(tried);
        pad.count = 0;
        return telling.acts;
    }

    /** 0 if all ACTS of the PAD could be done on the tried town, else NO or STATE. */
    private int tryPad() {
        if (pad.faultPlace() != NONE) {
            return NO;
        }
        tried.become(now);
        telling.follow(pad, act, tried);
        return telling.badAct == NONE ? 0 : STATE;
    }

    // ---- 3 alone, terriers, heard

    public int alone(int d, int c, int k, int what) {
        if (!within(d, 0, MOST_DOUBTS) || !within(c, 0, MOST_OF_SMALL)
                || !within(k, 0, MOST_OF_SMALL) || !within(what, 0, 1)) {
            return OUTSIDE;
        }
        int wanted = what == 0 ? 0 : MOST_DOUBTS;
        int doubts = d;
        // There are but 100 numbers of DOUBTS: what has not come in as many weeks comes never.
        for (int week = 0; week <= MOST_DOUBTS; week++) {
            if (doubts == wanted) {
                return week;
            }
            doubts = uncaged(grown(doubts, c), k);
        }
        return NONE;
    }

    public int terriers(int what) {
        if (!within(what, 0, 1)) {
            return OUTSIDE;
        }
        int fewest = HOUSES + 1;
        int which = 0;
        for (int set = 0; set < 1 << HOUSES; set++) {
            int many = Integer.bitCount(set);
            if (many < fewest && now.holesAllMeet(set)) {
                fewest = many;
                which = set;
            }
        }
        return what == 0 ? fewest : which;
    }

    public int heard(int one, int other, int n, int what) {
        if (!within(n, 1, MOST_DIGITS) || !within(what, 0, 1)) {
            return OUTSIDE;
        }
        int most = TENS[n] - 1;
        if (!within(one, 0, most) || !within(other, 0, most)) {
            return OUTSIDE;
        }
        hearing.listen(one, other, n);
        return what == 0 ? hearing.length : hearing.number;
    }

    // ---- 4 breeding, chases, chance

    public int gnawed(int weeks, int v) {
        if (!within(weeks, 0, LAST_SIGHT_WEEK) || !within(v, 0, MOST_DOUBTS)) {
            return OUTSIDE;
        }
        return sights.add(weeks, v) ? sights.count : FULL;
    }

    public int forget() {
        int were = sights.count;
        sights.clear();
        return were;
    }

    public int fits(int i) {
        if (i < -1) {
            return NONE;
        }
        int found = 0;
        for (int first = 1; first <= 9; first++) {
            for (int crumbs = 0; crumbs <= MOST_OF_SMALL; crumbs++) {
                if (sights.agree(first, crumbs)) {
                    if (found == i) {
                        return 10 * first + crumbs;
                    }
                    found++;
                }
            }
        }
        return i == -1 ? found : NONE;
    }

    public int ask(int what) {
        if (!within(what, 0, 1)) {
            return OUTSIDE;
        }
        asking.weigh(sights);
        return what == 0 ? asking.week : asking.left;
    }

    public int chase(int catcher, int rat, int what) {
        if (!isHouse(catcher) || !isHouse(rat)) {
            return UNKNOWN;
        }
        if (!within(what, 0, 1)) {
            return OUTSIDE;
        }
        hunt.follow(now.holes, catcher, rat);
        return what == 0 ? hunt.goings : hunt.first;
    }

    public long ever(int n, int k, int t, int part) {
        if (!within(n, 1, MOST_GIVEN_UP) || !within(k, 0, n)
                || !within(t, 1, TENTHS - 1) || !within(part, 0, 1)) {
            return GONE + OUTSIDE;
        }
        long up = t;
        long down = TENTHS - t;
        // The closed form below is 0 by 0 where both ways are as likely.
        long upper = n - k;
        long lower = n;
        if (up != down) {
            upper = power(down, k) * power(up, n - k) - power(down, n);
            lower = power(up, n) - power(down, n);
        }
        upper = Math.abs(upper);
        lower = Math.abs(lower);
        long shared = commonDivisor(upper, lower);
        if (shared < 1) {
            shared = 1;
        }
        return (part == 0 ? upper : lower) / shared;
    }

    public int year(int seed, int m, int what) {
        if (!within(seed, 0, LAST_SEED) || !within(m, 1, MOST_YEAR_ACTS) || !within(what, 0, 2)) {
            return OUTSIDE;
        }
        tried.become(now);
        int x = seed;
        for (int i = 0; i < m; i++) {
            x = (75 * x + 74) % 65537;
            act.draw(x);
            if (act.sign != 0 && tried.whyNot(act) == 0) {
                tried.take(act);
            }
        }
        switch (what) {
            case 0:
                return tried.allDoubts();
            case 1:
                return tried.sack;
            default:
                return Integer.bitCount(tried.clearHouses());
        }
    }

    public int image(int k) {
        if (!within(k, 0, IMAGES - 1)) {
            return OUTSIDE;
        }
        images[k].town.become(now);
        images[k].sights.become(sights);
        images[k].kept = true;
        return 1;
    }

    public int restore(int k) {
        if (!within(k, 0, IMAGES - 1)) {
            return OUTSIDE;
        }
        if (!images[k].kept) {
            return STATE;
        }
        now.become(images[k].town);
        sights.become(images[k].sights);
        return 1;
    }

    public int told(int what) {
        if (within(what, 10, 9 + HOUSES)) {
            return now.holes[what - 10];
        }
        if (within(what, 100, 99 + 10 * HOUSES)) {
            int part = what % 10;
            return part <= 3 ? now.ofHouse((what - 100) / 10, part) : OUTSIDE;
        }
        switch (what) {
            case 0:
                return pad.count;
            case 1:
                return now.clearHouses();
            case 2:
                return now.bag;
            case 3:
                return now.sack;
            case 4:
                return now.week;
            case 5:
                return sights.count;
            default:
                return OUTSIDE;
        }
    }

    // ---- what several of these need

    private static boolean within(int v, int least, int most) {
        return v >= least && v <= most;
    }

    private static boolean isHouse(int house) {
        return house >= 0 && house < HOUSES;
    }

    private static boolean isLetter(int sign) {
        return isHouse(sign - FIRST_LETTER);
    }

    private static int grown(int doubts, int crumbs) {
        return Math.min(MOST_DOUBTS, doubts + Math.min(crumbs, doubts));
    }

    private static int uncaged(int doubts, int cages) {
        return Math.max(0, doubts - cages);
    }

    private static long power(long base, int times) {
        long product = 1;
        for (int i = 0; i < times; i++) {
            product *= base;
        }
        return product;
    }

    private static long commonDivisor(long one, long other) {
        long a = one;
        long b = other;
        // Numbers of 63 bits take fewer than 100 steps.
        for (int step = 0; step < 100 && b != 0; step++) {
            long rest = a % b;
            a = b;
            b = rest;
        }
        return a;
    }

    /** One ACT, read from the PAD or drawn in a YEAR; one object serves for all of them. */
    private static final class Act {
        int sign;
        int house;
        int other;

        /** Reads the ACT at a place of a PAD without a FAULT: the place behind it. */
        int read(Pad pad, int place) {
            int head = pad.signAt(place);
            sign = head;
            house = 0;
            other = 0;
            if (head == WEEK) {
                return place + 1;
            }
            if (head == HOLE) {
                house = pad.houseAt(place + 1);
                other = pad.houseAt(place + 2);
                return place + 3;
            }
            house = pad.houseAt(place);
            sign = pad.signAt(place + 1);
            return place + 2;
        }

        /** The sign is 0 where the draw is of no ACT. */
        void draw(int x) {
            int z = x / 64;
            sign = YEAR_SIGNS[Math.floorMod(x / HOUSES, YEAR_SIGNS.length)];
            house = Math.floorMod(x, HOUSES);
            other = Math.floorMod(z, HOUSES);
            if (sign == ARSENIC && z % 4 != 0) {
                sign = 0;
            }
        }
    }

    /** The signs that are said, and whether they are ACTS. */
    private static final class Pad {
        private static final int AN_ACT = 0;
        private static final int A_DEED = 1;
        private static final int ONE_END = 2;
        private static final int OTHER_END = 3;
        private static final int NOT_SO = 4;

        final int[] signs = new int[MOST_SIGNS];
        int count;

        boolean add(int sign) {
            if (count >= MOST_SIGNS) {
                return false;
            }
            signs[count] = sign;
            count++;
            return true;
        }

        int signAt(int place) {
            return within(place, 0, count - 1) ? signs[place] : 0;
        }

        int houseAt(int place) {
            int house = signAt(place) - FIRST_LETTER;
            return isHouse(house) ? house : 0;
        }

        int faultPlace() {
            int awaited = AN_ACT;
            for (int place = 0; place < count; place++) {
                awaited = awaitedBehind(signs[place], awaited);
                if (awaited == NOT_SO) {
                    return place;
                }
            }
            return awaited == AN_ACT ? NONE : count;
        }

        private static int awaitedBehind(int sign, int awaited) {
            switch (awaited) {
                case AN_ACT:
                    if (sign == WEEK) {
                        return AN_ACT;
                    }
                    if (sign == HOLE) {
                        return ONE_END;
                    }
                    return isLetter(sign) ? A_DEED : NOT_SO;
                case A_DEED:
                    return isDeed(sign) ? AN_ACT : NOT_SO;
                case ONE_END:
                    return isLetter(sign) ? OTHER_END : NOT_SO;
                default:
                    return isLetter(sign) ? AN_ACT : NOT_SO;
            }
        }

        private static boolean isDeed(int sign) {
            return sign == MORE || sign == LESS || sign == SET || sign == BACK || sign == ARSENIC;
        }
    }

    /** What the HOUSES, the BAG, the SACK and the week are. */
    private static final class Town {
        final int[] doubts = new int[HOUSES];
        final int[] crumbs = new int[HOUSES];
        final int[] cages = new int[HOUSES];
        final int[] smells = new int[HOUSES];
        final int[] holes = new int[HOUSES];
        /** DOUBTS as they are ahead of any going, for the length of one week. */
        final int[] ahead = new int[HOUSES];
        int bag = 9;
        int sack;
        int week;

        void become(Town that) {
            System.arraycopy(that.doubts, 0, doubts, 0, HOUSES);
            System.arraycopy(that.crumbs, 0, crumbs, 0, HOUSES);
            System.arraycopy(that.cages, 0, cages, 0, HOUSES);
            System.arraycopy(that.smells, 0, smells, 0, HOUSES);
            System.arraycopy(that.holes, 0, holes, 0, HOUSES);
            bag = that.bag;
            sack = that.sack;
            week = that.week;
        }

        int ofHouse(int house, int what) {
            if (!isHouse(house)) {
                return UNKNOWN;
            }
            switch (what) {
                case 0:
                    return doubts[house];
                case 1:
                    return crumbs[house];
                case 2:
                    return cages[house];
                default:
                    return smells[house];
            }
        }

        int allDoubts() {
            int all = 0;
            for (int h = 0; h < HOUSES; h++) {
                all += doubts[h];
            }
            return all;
        }

        int clearHouses() {
            int clear = 0;
            for (int h = 0; h < HOUSES; h++) {
                if (doubts[h] == 0) {
                    clear |= 1 << h;
                }
            }
            return clear;
        }

        boolean hasHole(int one, int other) {
            return isHouse(one) && (holes[one] >> other & 1) == 1;
        }

        void turnHole(int one, int other) {
            if (isHouse(one) && isHouse(other)) {
                holes[one] ^= 1 << other;
                holes[other] ^= 1 << one;
            }
        }

        int countHoles() {
            int ends = 0;
            for (int h = 0; h < HOUSES; h++) {
                ends += Integer.bitCount(holes[h]);
            }
            return ends / 2;
        }

        boolean holesAllMeet(int set) {
            for (int h = 0; h < HOUSES; h++) {
                if ((set >> h & 1) == 0 && (holes[h] & ~set) != 0) {
                    return false;
                }
            }
            return true;
        }

        /** 0 if the ACT can be, else the least reason why not. */
        int whyNot(Act act) {
            int h = act.house;
            if (!isHouse(h)) {
                return 1;
            }
            switch (act.sign) {
                case MORE:
                    return crumbs[h] >= MOST_OF_SMALL ? 1 : 0;
                case LESS:
                    return crumbs[h] == 0 ? 1 : 0;
                case SET:
                    if (cages[h] >= MOST_OF_SMALL) {
                        return 1;
                    }
                    return bag == 0 ? 2 : 0;
                case BACK:
                    return cages[h] == 0 ? 1 : 0;
                case ARSENIC:
                    return doubts[h] == 0 ? 3 : 0;
                case HOLE:
                    return h == act.other ? 4 : 0;
                default:
                    return week >= LAST_WEEK ? 5 : 0;
            }
        }

        /** Does an ACT that can be. */
        void take(Act act) {
            int h = act.house;
            if (!isHouse(h)) {
                return;
            }
            switch (act.sign) {
                case MORE:
                    crumbs[h]++;
                    break;
                case LESS:
                    crumbs[h]--;
                    break;
                case SET:
                    cages[h]++;
                    bag--;
                    break;
                case BACK:
                    cages[h]--;
                    bag = Math.min(MOST_IN_BAG, bag + 1);
                    break;
                case ARSENIC:
                    doubts[h] /= 2;
                    smells[h] = ARSENIC_WEEKS;
                    break;
                case HOLE:
                    turnHole(h, act.other);
                    break;
                default:
                    passWeek();
                    break;
            }
        }

        private void passWeek() {
            for (int h = 0; h < HOUSES; h++) {
                int bred = grown(doubts[h], crumbs[h]);
                doubts[h] = uncaged(bred, cages[h]);
                sack += bred - doubts[h];
            }
            wander();
            for (int h = 0; h < HOUSES; h++) {
                smells[h] = Math.max(0, smells[h] - 1);
            }
            week++;
        }

        private void wander() {
            System.arraycopy(doubts, 0, ahead, 0, HOUSES);
            for (int h = 0; h < HOUSES; h++) {
                if (ahead[h] >= CROWD || smells[h] > 0 && ahead[h] > 0) {
                    int to = quietestOf(holes[h]);
                    if (isHouse(to)) {
                        doubts[h]--;
                        doubts[to]++;
                    }
                }
            }
            // Only when all have gone: a full HOUSE may send one and take in others.
            for (int h = 0; h < HOUSES; h++) {
                doubts[h] = Math.min(MOST_DOUBTS, doubts[h]);
            }
        }

        private int quietestOf(int houses) {
            int best = NONE;
            int fewest = MOST_DOUBTS + 1;
            for (int h = 0; h < HOUSES; h++) {
                if ((houses >> h & 1) == 1 && ahead[h] < fewest) {
                    best = h;
                    fewest = ahead[h];
                }
            }
            return best;
        }
    }

    /** What comes of the ACTS of a PAD. */
    private static final class Telling {
        int acts;
        int badAct;
        int why;
        int ridAct;
        int ridHouse;

        void follow(Pad pad, Act act, Town town) {
            badAct = NONE;
            why = NONE;
            ridAct = NONE;
            ridHouse = NONE;
            int place = 0;
            int clear = town.clearHouses();
            acts = 0;
            for (int i = 0; i < MOST_SIGNS && place < pad.count; i++) {
                place = act.read(pad, place);
                int reason = town.whyNot(act);
                if (reason != 0) {
                    badAct = i;
                    why = reason;
                    return;
                }
                town.take(act);
                int clearThen = town.clearHouses();
                noteRid(i, clearThen & ~clear);
                clear = clearThen;
                acts++;
            }
        }

        private void noteRid(int actNumber, int newlyClear) {
            if (newlyClear == 0 || ridAct != NONE) {
                return;
            }
            ridAct = actNumber;
            for (int h = HOUSES - 1; h >= 0; h--) {
                if ((newlyClear >> h & 1) == 1) {
                    ridHouse = h;
                }
            }
        }
    }

    /** SIGHTS by week: nothing asks for them one by one, only for their number and what agrees with all. */
    private static final class Sights {
        private static final int UNSEEN = -1;
        private static final int AT_ODDS = -2;

        final int[] seen = new int[LAST_SIGHT_WEEK + 1];
        int count;
        int lastWeek;

        Sights() {
            Arrays.fill(seen, UNSEEN);
            lastWeek = -1;
        }

        void clear() {
            Arrays.fill(seen, UNSEEN);
            count = 0;
            lastWeek = -1;
        }

        void become(Sights that) {
            System.arraycopy(that.seen, 0, seen, 0, LAST_SIGHT_WEEK + 1);
            count = that.count;
            lastWeek = that.lastWeek;
        }

        boolean add(int week, int v) {
            if (count >= MOST_SIGHTS || !within(week, 0, LAST_SIGHT_WEEK)) {
                return false;
            }
            seen[week] = seen[week] == UNSEEN || seen[week] == v ? v : AT_ODDS;
            lastWeek = Math.max(lastWeek, week);
            count++;
            return true;
        }

        boolean agree(int first, int crumbs) {
            int doubts = first;
            for (int week = 0; week <= lastWeek && week <= LAST_SIGHT_WEEK; week++) {
                if (seen[week] != UNSEEN && seen[week] != doubts) {
                    return false;
                }
                doubts = grown(doubts, crumbs);
            }
            return true;
        }
    }

    /** The week to ask about next. */
    private static final class Asking {
        final int[] doubts = new int[MOST_BRED];
        final int[] crumbs = new int[MOST_BRED];
        final int[] alike = new int[MOST_DOUBTS + 1];
        int count;
        int week;
        int left;

        void weigh(Sights sights) {
            gather(sights);
            week = NONE;
            left = NONE;
            for (int w = 0; w <= LAST_SIGHT_WEEK && count > 0; w++) {
                int most = mostAlike();
                if (week == NONE || most < left) {
                    week = w;
                    left = most;
                }
                breedAll();
            }
        }

        private void gather(Sights sights) {
            count = 0;
            for (int first = 1; first <= 9; first++) {
                for (int c = 0; c <= MOST_OF_SMALL; c++) {
                    if (count < MOST_BRED && sights.agree(first, c)) {
                        doubts[count] = first;
                        crumbs[count] = c;
                        count++;
                    }
                }
            }
        }

        private int mostAlike() {
            Arrays.fill(alike, 0);
            int most = 0;
            for (int i = 0; i < count; i++) {
                int d = doubts[i];
                if (within(d, 0, MOST_DOUBTS)) {
                    alike[d]++;
                    most = Math.max(most, alike[d]);
                }
            }
            return most;
        }

        private void breedAll() {
            for (int i = 0; i < count; i++) {
                doubts[i] = grown(doubts[i], crumbs[i]);
            }
        }
    }

    /** The longest row of digits in two others, and the least of as long. */
    private static final class Hearing {
        private static final int WIDE = MOST_DIGITS + 1;

        /** At WIDE * i + j: of the last i digits of one and the last j of the other; those of no digits stay 0. */
        final int[] lengths = new int[WIDE * WIDE];
        final int[] numbers = new int[WIDE * WIDE];
        int length;
        int number;

        void listen(int one, int other, int n) {
            int restOfOne = one;
            for (int i = 1; i <= n && i < WIDE; i++) {
                int restOfOther = other;
                for (int j = 1; j <= n && j < WIDE; j++) {
                    compare(WIDE * i + j, restOfOne % 10, restOfOther % 10);
                    restOfOther /= 10;
                }
                restOfOne /= 10;
            }
            length = 0;
            number = 0;
            if (within(n, 1, MOST_DIGITS)) {
                length = lengths[WIDE * n + n];
                number = numbers[WIDE * n + n];
            }
        }

        private void compare(int at, int digit, int otherDigit) {
            if (!within(at, WIDE + 1, WIDE * WIDE - 1)) {
                return;
            }
            lengths[at] = lengths[at - 1];
            numbers[at] = numbers[at - 1];
            offer(at, lengths[at - WIDE], numbers[at - WIDE]);
            int rest = lengths[at - WIDE - 1];
            if (digit == otherDigit && within(rest, 0, MOST_DIGITS - 1)) {
                offer(at, rest + 1, digit * TENS[rest] + numbers[at - WIDE - 1]);
            }
        }

        private void offer(int at, int longer, int lesser) {
            if (longer > lengths[at] || longer == lengths[at] && lesser < numbers[at]) {
                lengths[at] = longer;
                numbers[at] = lesser;
            }
        }
    }

    /** A catcher and one rat by turns, told backwards from where it is caught; sets of HOUSES are bits. */
    private static final class Hunt {
        /** The pairs of HOUSES: each round but the last adds one at least. */
        private static final int MOST_ROUNDS = HOUSES * HOUSES;

        /** Where one can be next, by HOUSE. */
        final int[] near = new int[HOUSES];
        /** By the catcher's HOUSE, he being next to go: from where the rat is caught for sure. */
        final int[] lost = new int[HOUSES];
        /** By the catcher's HOUSE, the rat being next to go: likewise. */
        final int[] shut = new int[HOUSES];
        int goings;
        int first;

        void follow(int[] holes, int catcher, int rat) {
            goings = catcher == rat ? 0 : NONE;
            first = NONE;
            for (int h = 0; h < HOUSES && h < holes.length; h++) {
                near[h] = holes[h] | 1 << h;
                lost[h] = 1 << h;
            }
            boolean wider = true;
            for (int round = 1; round <= MOST_ROUNDS && goings == NONE && wider; round++) {
                shutIn();
                first = firstGoing(catcher, rat);
                if (first != NONE) {
                    goings = round;
                }
                wider = widen();
            }
        }

        private void shutIn() {
            for (int h = 0; h < HOUSES; h++) {
                shut[h] = 1 << h;
                for (int r = 0; r < HOUSES; r++) {
                    if ((near[r] & ~lost[h]) == 0) {
                        shut[h] |= 1 << r;
                    }
                }
            }
        }

        private int firstGoing(int catcher, int rat) {
            for (int h = 0; h < HOUSES; h++) {
                if ((near[catcher] >> h & 1) == 1 && (shut[h] >> rat & 1) == 1) {
                    return h;
                }
            }
            return NONE;
        }

        private boolean widen() {
            boolean wider = false;
            for (int h = 0; h < HOUSES; h++) {
                int reached = lost[h];
                for (int to = 0; to < HOUSES; to++) {
                    if ((near[h] >> to & 1) == 1) {
                        reached |= shut[to];
                    }
                }
                wider |= reached != lost[h];
                lost[h] = reached;
            }
            return wider;
        }
    }

    /** All but the PAD, as it was. */
    private static final class Image {
        final Town town = new Town();
        final Sights sights = new Sights();
        boolean kept;
    }
}
