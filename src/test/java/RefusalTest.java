/**
 * Every refusal: its answer, from the first number beyond a bound and the farthest; whichever state the object is in, so
 * that it comes ahead of those that the document has behind it; and that it changes nothing.
 */
public final class RefusalTest {
    private static final int UNKNOWN = -1, OUTSIDE = -2, STATE = -3, FULL = -4, NO = -5;
    private static final long GONE_OUTSIDE = -1000000000000000002L;

    private static final int NEW = 0, ACTS = 1, FAULTY = 2, BARRED = 3, FULL_PAD = 4, FULL_FAULTY = 5, FULL_SIGHTS = 6,
        LAST_WEEK = 7, FAULTY_AND_BARRED = 8, BOTH_KEPT = 9, STATES = 10;
    private static final String[] NAMES = {"new", "ACTS on the PAD", "a FAULT", "an ACT that can not be", "a full PAD",
        "a full PAD with a FAULT", "full SIGHTS", "week 99", "a FAULT and an ACT that can not be", "both IMAGES kept"};

    private static int wrong = 0;
    private static final String[] traces = new String[STATES];

    private interface Call {
        long on(DoubtCatcher x);
    }

    public static void main(String[] args) {
        for (int state = 0; state < STATES; state++) {
            traces[state] = trace(start(state));
        }
        houses();
        pad();
        weeks();
        aloneTerriersHeard();
        breeding();
        chaseEverYear();
        images();
        told();
        faultsAndActs();
        fullOnes();
        notKept();
        asking();
        System.out.println(wrong == 0 ? "every refusal is as due" : wrong + " refusals are not as due");
        if (wrong != 0) {
            System.exit(1);
        }
    }

    // ---- states

    private static void say(DoubtCatcher x, String text) {
        for (int i = 0; i < text.length(); i++) {
            x.say(text.charAt(i));
        }
    }

    /** IMAGE 0 is kept, of a state other than the one that is. */
    private static DoubtCatcher lived() {
        DoubtCatcher x = new DoubtCatcher();
        x.house(0, 12, 3, 1, 0);
        x.house(1, 5, 0, 2, 4);
        x.hole(0, 1, true);
        x.hole(1, 2, true);
        x.gnawed(1, 8);
        x.image(0);
        x.house(3, 40, 2, 0, 1);
        x.hole(0, 3, true);
        x.bag(17);
        x.gnawed(2, 12);
        say(x, "..");
        x.done();
        return x;
    }

    private static DoubtCatcher start(int state) {
        if (state == NEW) {
            return new DoubtCatcher();
        }
        DoubtCatcher x = lived();
        switch (state) {
            case ACTS:
                say(x, "A+B^oCD.A!");
                break;
            case FAULTY:
                say(x, "A+B");
                break;
            case BARRED:
                say(x, "A+oBB");
                break;
            case FULL_PAD:
                say(x, "A+A-A+A-A+A-A+A-A+A-A+A-A+A-A+A-A+A-A+A-A+A-A+A-A+A-A+A-A+A-");
                break;
            case FULL_FAULTY:
                say(x, "...........................................................A");
                break;
            case FULL_SIGHTS:
                for (int i = 0; i < 6; i++) {
                    x.gnawed(2, 12);
                }
                break;
            case LAST_WEEK:
                say(x, "............................................................");
                x.done();
                say(x, ".....................................");
                x.done();
                say(x, ".");
                break;
            case FAULTY_AND_BARRED:
                say(x, "oBBA");
                break;
            default:
                x.image(1);
                x.house(7, 70, 0, 7, 0);
                x.forget();
                break;
        }
        return x;
    }

    /** All that can be asked: as it is, then behind the ACTS, then of both IMAGES; some 250 calls. */
    private static String trace(DoubtCatcher x) {
        StringBuilder t = new StringBuilder();
        toldOf(x, t);
        t.append(x.fault());
        for (int what = 0; what < 5; what++) {
            note(t, x.judge(what), x.town(what), x.rid(what), x.terriers(what), x.year(5, 90, what));
            for (int h = 0; h < 8; h++) {
                note(t, x.behind(h, what));
            }
        }
        sightsOf(x, t);
        note(t, x.chase(0, 3, 0), x.chase(0, 3, 1), x.alone(9, 1, 2, 0), x.heard(12, 21, 2, 1), x.ever(3, 1, 4, 0));
        note(t, x.done(), x.wipe());
        toldOf(x, t);
        note(t, x.restore(0));
        toldOf(x, t);
        sightsOf(x, t);
        note(t, x.restore(1));
        toldOf(x, t);
        sightsOf(x, t);
        return t.toString();
    }

    private static void note(StringBuilder t, long... answers) {
        for (long answer : answers) {
            t.append(' ').append(answer);
        }
    }

    private static void toldOf(DoubtCatcher x, StringBuilder t) {
        for (int what = 0; what < 6; what++) {
            note(t, x.told(what));
        }
        for (int h = 0; h < 8; h++) {
            note(t, x.told(10 + h));
            for (int part = 0; part < 4; part++) {
                note(t, x.told(100 + 10 * h + part));
            }
        }
    }

    private static void sightsOf(DoubtCatcher x, StringBuilder t) {
        note(t, x.fits(-1), x.fits(0), x.fits(1), x.ask(0), x.ask(1));
    }

    /** The call answers so, and all is as it would be without it. */
    private static void due(int state, String name, Call call, long want) {
        DoubtCatcher x = start(state);
        long got = call.on(x);
        if (got != want) {
            fail(state, name, "answered " + got + ", due is " + want);
        }
        if (!trace(x).equals(traces[state])) {
            fail(state, name, "has changed something");
        }
    }

    private static void fail(int state, String name, String why) {
        wrong++;
        System.out.println(NAMES[state] + ": " + name + " " + why);
    }

    private static void always(String name, Call call, long want) {
        for (int state = 0; state < STATES; state++) {
            due(state, name, call, want);
        }
    }

    private static int[] beyond(int least, int most) {
        return new int[] {least - 1, most + 1, Integer.MIN_VALUE, Integer.MAX_VALUE};
    }

    // ---- UNKNOWN and OUTSIDE, in every state

    private static void houses() {
        for (int h : beyond(0, 7)) {
            always("house " + h, x -> x.house(h, 1, 1, 1, 1), UNKNOWN);
            always("house " + h + ", all else outside", x -> x.house(h, 100, -1, 10, -1), UNKNOWN);
            always("hole from " + h, x -> x.hole(h, 2, true), UNKNOWN);
            always("hole to " + h, x -> x.hole(2, h, true), UNKNOWN);
            always("no hole from " + h, x -> x.hole(h, 0, false), UNKNOWN);
            always("no hole to " + h, x -> x.hole(0, h, false), UNKNOWN);
            always("hole between " + h + " and itself", x -> x.hole(h, h, true), UNKNOWN);
        }
        for (int h = 0; h < 8; h++) {
            int one = h;
            always("hole, both " + h, x -> x.hole(one, one, true), UNKNOWN);
            always("no hole, both " + h, x -> x.hole(one, one, false), UNKNOWN);
            always("all outside but HOUSE " + h, x -> x.house(one, 100, 10, 10, 10), OUTSIDE);
        }
        for (int v : beyond(0, 99)) {
            always("doubts " + v, x -> x.house(0, v, 1, 1, 1), OUTSIDE);
            always("bag " + v, x -> x.bag(v), OUTSIDE);
        }
        for (int v : beyond(0, 9)) {
            always("crumbs " + v, x -> x.house(0, 1, v, 1, 1), OUTSIDE);
            always("cages " + v, x -> x.house(0, 1, 1, v, 1), OUTSIDE);
            always("smell " + v, x -> x.house(0, 1, 1, 1, v), OUTSIDE);
        }
    }

    /** On a full PAD too: OUTSIDE ahead of FULL. */
    private static void pad() {
        for (int sign : beyond(33, 126)) {
            always("sign " + sign, x -> x.say(sign), OUTSIDE);
        }
        int[] alikeButForHighBits = {'.' + 256, 'A' + 65536, -'.', 0, 10, 13, 160, 255};
        for (int sign : alikeButForHighBits) {
            always("sign " + sign, x -> x.say(sign), OUTSIDE);
        }
    }

    /** With a FAULT, or an ACT that can not be, too: UNKNOWN, OUTSIDE ahead of NO, STATE. */
    private static void weeks() {
        for (int what : beyond(0, 2)) {
            always("judge " + what, x -> x.judge(what), OUTSIDE);
        }
        for (int what : beyond(0, 3)) {
            always("behind 0, " + what, x -> x.behind(0, what), OUTSIDE);
            always("behind 7, " + what, x -> x.behind(7, what), OUTSIDE);
            always("behind 8, " + what, x -> x.behind(8, what), UNKNOWN);
        }
        for (int h : beyond(0, 7)) {
            always("behind " + h, x -> x.behind(h, 0), UNKNOWN);
        }
        for (int what : beyond(0, 4)) {
            always("town " + what, x -> x.town(what), OUTSIDE);
        }
        for (int what : beyond(0, 1)) {
            always("rid " + what, x -> x.rid(what), OUTSIDE);
        }
    }

    private static void aloneTerriersHeard() {
        for (int d : beyond(0, 99)) {
            always("alone d " + d, x -> x.alone(d, 0, 0, 0), OUTSIDE);
        }
        for (int v : beyond(0, 9)) {
            always("alone c " + v, x -> x.alone(0, v, 0, 0), OUTSIDE);
            always("alone k " + v, x -> x.alone(0, 0, v, 0), OUTSIDE);
        }
        for (int what : beyond(0, 1)) {
            always("alone what " + what, x -> x.alone(0, 0, 0, what), OUTSIDE);
            always("terriers " + what, x -> x.terriers(what), OUTSIDE);
            always("heard what " + what, x -> x.heard(0, 0, 1, what), OUTSIDE);
        }
        for (int n : beyond(1, 9)) {
            always("heard n " + n, x -> x.heard(0, 0, n, 0), OUTSIDE);
        }
        int ten = 10;
        for (int n = 1; n <= 9; n++) {
            int digits = n;
            for (int row : beyond(0, ten - 1)) {
                always("heard one " + row + " of " + n, x -> x.heard(row, 0, digits, 0), OUTSIDE);
                always("heard other " + row + " of " + n, x -> x.heard(0, row, digits, 1), OUTSIDE);
            }
            ten *= n < 9 ? 10 : 1;
        }
    }

    /** With full SIGHTS too: OUTSIDE ahead of FULL; with nothing that fits too: OUTSIDE, not NONE. */
    private static void breeding() {
        for (int weeks : beyond(0, 40)) {
            always("gnawed weeks " + weeks, x -> x.gnawed(weeks, 9), OUTSIDE);
        }
        for (int v : beyond(0, 99)) {
            always("gnawed v " + v, x -> x.gnawed(9, v), OUTSIDE);
        }
        for (int what : beyond(0, 1)) {
            always("ask " + what, x -> x.ask(what), OUTSIDE);
            DoubtCatcher x = new DoubtCatcher();
            x.gnawed(0, 0);
            if (x.fits(-1) != 0 || x.ask(what) != OUTSIDE) {
                fail(NEW, "ask " + what + ", where nothing fits", "is not OUTSIDE");
            }
        }
    }

    private static void chaseEverYear() {
        for (int h : beyond(0, 7)) {
            always("catcher " + h, x -> x.chase(h, 0, 0), UNKNOWN);
            always("rat " + h, x -> x.chase(0, h, 0), UNKNOWN);
            always("catcher and rat " + h, x -> x.chase(h, h, 0), UNKNOWN);
            always("rat " + h + ", what 2", x -> x.chase(0, h, 2), UNKNOWN);
        }
        for (int what : beyond(0, 1)) {
            always("chase " + what, x -> x.chase(0, 1, what), OUTSIDE);
            always("chase, it is there, " + what, x -> x.chase(1, 1, what), OUTSIDE);
            always("ever part " + what, x -> x.ever(5, 1, 5, what), GONE_OUTSIDE);
        }
        for (int n : beyond(1, 16)) {
            always("ever n " + n, x -> x.ever(n, 0, 5, 0), GONE_OUTSIDE);
            always("ever n and k " + n, x -> x.ever(n, n, 5, 1), GONE_OUTSIDE);
        }
        for (int n = 1; n <= 16; n++) {
            int most = n;
            for (int k : beyond(0, n)) {
                always("ever n " + n + " k " + k, x -> x.ever(most, k, 5, 0), GONE_OUTSIDE);
            }
        }
        for (int t : beyond(1, 9)) {
            always("ever t " + t, x -> x.ever(5, 1, t, 0), GONE_OUTSIDE);
        }
        for (int seed : beyond(0, 9999)) {
            always("year seed " + seed, x -> x.year(seed, 1, 0), OUTSIDE);
        }
        for (int m : beyond(1, 99)) {
            always("year m " + m, x -> x.year(0, m, 0), OUTSIDE);
        }
        for (int what : beyond(0, 2)) {
            always("year what " + what, x -> x.year(0, 1, what), OUTSIDE);
        }
    }

    /** Though none is kept: OUTSIDE ahead of STATE. */
    private static void images() {
        for (int k : beyond(0, 1)) {
            always("image " + k, x -> x.image(k), OUTSIDE);
            always("restore " + k, x -> x.restore(k), OUTSIDE);
        }
    }

    private static void told() {
        for (int what : beyond(0, 5)) {
            always("told " + what, x -> x.told(what), OUTSIDE);
        }
        int[] bad = {9, 18, 99, 104, 109, 114, 119, 174, 179, 180, 183, 190, 200};
        for (int what : bad) {
            always("told " + what, x -> x.told(what), OUTSIDE);
        }
    }

    // ---- NO, STATE, FULL, as the state is

    private static void ofPad(int state, long refusal) {
        due(state, "judge 2", x -> x.judge(2), refusal);
        for (int what = 0; what < 5; what++) {
            int w = what;
            due(state, "town " + what, x -> x.town(w), refusal);
        }
        for (int h = 0; h < 8; h++) {
            int house = h;
            for (int what = 0; what < 4; what++) {
                int w = what;
                due(state, "behind " + h + ", " + what, x -> x.behind(house, w), refusal);
            }
        }
        due(state, "rid 0", x -> x.rid(0), refusal);
        due(state, "rid 1", x -> x.rid(1), refusal);
        due(state, "done", x -> x.done(), refusal);
    }

    /** NO ahead of STATE; judge(0), judge(1) answer where an ACT can not be. */
    private static void faultsAndActs() {
        int[] faulty = {FAULTY, FULL_FAULTY, FAULTY_AND_BARRED};
        for (int state : faulty) {
            ofPad(state, NO);
            due(state, "judge 0", x -> x.judge(0), NO);
            due(state, "judge 1", x -> x.judge(1), NO);
        }
        ofPad(BARRED, STATE);
        due(BARRED, "judge 0", x -> x.judge(0), 1);
        due(BARRED, "judge 1", x -> x.judge(1), 4);
        ofPad(LAST_WEEK, STATE);
        due(LAST_WEEK, "judge 0", x -> x.judge(0), 0);
        due(LAST_WEEK, "judge 1", x -> x.judge(1), 5);
    }

    private static void fullOnes() {
        for (int sign = 33; sign <= 126; sign++) {
            int s = sign;
            due(FULL_PAD, "sign " + sign, x -> x.say(s), FULL);
            due(FULL_FAULTY, "sign " + sign, x -> x.say(s), FULL);
        }
        for (int weeks = 0; weeks <= 40; weeks++) {
            int w = weeks;
            due(FULL_SIGHTS, "gnawed " + weeks, x -> x.gnawed(w, 99), FULL);
            due(FULL_SIGHTS, "gnawed " + weeks, x -> x.gnawed(w, 0), FULL);
        }
    }

    private static void notKept() {
        due(NEW, "restore 0", x -> x.restore(0), STATE);
        for (int state = 0; state < BOTH_KEPT; state++) {
            due(state, "restore 1", x -> x.restore(1), STATE);
        }
    }

    /** What is only asked changes nothing either. */
    private static void asking() {
        for (int state = 0; state < STATES; state++) {
            String before = traces[state];
            DoubtCatcher x = start(state);
            for (int what = -1; what < 6; what++) {
                x.judge(what);
                x.behind(3, what);
                x.town(what);
                x.rid(what);
                x.alone(9, 3, 3, what);
                x.terriers(what);
                x.heard(123, 321, 3, what);
                x.fits(what);
                x.ask(what);
                x.chase(0, 2, what);
                x.ever(9, 3, 3, what);
                x.year(77, 99, what);
                x.told(what);
                x.fault();
            }
            if (!trace(x).equals(before)) {
                fail(state, "asking", "has changed something");
            }
        }
    }
}
