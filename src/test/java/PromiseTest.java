/** One method a promise of ../shared/DOC.md: ordinary calls, the edges, wrong ones. */
public final class PromiseTest {
    private static int wrong = 0;
    private static int promise = 0;

    private static void due(String call, long got, long want) {
        if (got != want) {
            wrong++;
            System.out.println("promise " + promise + ": " + call + " answered " + got + ", due is " + want);
        }
    }

    private static void say(DoubtCatcher x, String text) {
        for (int i = 0; i < text.length(); i++) {
            x.say(text.charAt(i));
        }
    }

    /** What is on the PAD goes, and the text comes. */
    private static DoubtCatcher pad(DoubtCatcher x, String text) {
        x.wipe();
        say(x, text);
        return x;
    }

    private static DoubtCatcher with(String text) {
        return pad(new DoubtCatcher(), text);
    }

    /** 48 calls: an object answers as promised for 512 alone. */
    private static String all(DoubtCatcher x) {
        StringBuilder told = new StringBuilder();
        for (int what = 0; what < 6; what++) {
            told.append(x.told(what)).append(' ');
        }
        for (int h = 0; h < 8; h++) {
            told.append(x.told(10 + h)).append(' ');
            for (int part = 0; part < 4; part++) {
                told.append(x.told(100 + 10 * h + part)).append(' ');
            }
        }
        told.append(x.fault()).append(' ').append(x.fits(-1));
        return told.toString();
    }

    private static void same(String call, String got, String want) {
        due(call + " (changes nothing)", got.equals(want) ? 1 : 0, 1);
    }

    public static void main(String[] args) {
        newObject();
        house();
        hole();
        bag();
        say();
        wipe();
        fault();
        judge();
        behind();
        week();
        town();
        rid();
        done();
        alone();
        terriers();
        heard();
        gnawed();
        forget();
        fits();
        ask();
        chase();
        ever();
        year();
        image();
        restore();
        told();
        System.out.println(wrong == 0 ? "every promise holds" : wrong + " answers are not as due");
        if (wrong != 0) {
            System.exit(1);
        }
    }

    private static void newObject() {
        promise = 1;
        DoubtCatcher x = new DoubtCatcher();
        due("told(0)", x.told(0), 0);
        due("told(1)", x.told(1), 255);
        due("told(2)", x.told(2), 9);
        due("told(3)", x.told(3), 0);
        due("told(4)", x.told(4), 0);
        due("told(5)", x.told(5), 0);
        for (int h = 0; h < 8; h++) {
            due("holes of " + h, x.told(10 + h), 0);
            for (int part = 0; part < 4; part++) {
                due("part " + part + " of " + h, x.told(100 + 10 * h + part), 0);
            }
        }
        due("restore(0)", x.restore(0), -3);
        due("restore(1)", x.restore(1), -3);
        due("UNKNOWN", DoubtCatcher.UNKNOWN, -1);
        due("OUTSIDE", DoubtCatcher.OUTSIDE, -2);
        due("STATE", DoubtCatcher.STATE, -3);
        due("FULL", DoubtCatcher.FULL, -4);
        due("NO", DoubtCatcher.NO, -5);
        due("NONE", DoubtCatcher.NONE, -6);
        due("GONE", DoubtCatcher.GONE, -1000000000000000000L);
    }

    private static void house() {
        promise = 2;
        DoubtCatcher x = new DoubtCatcher();
        due("first", x.house(7, 99, 9, 8, 7), 0);
        due("DOUBTS", x.told(170), 99);
        due("CRUMBS", x.told(171), 9);
        due("CAGES", x.told(172), 8);
        due("SMELL", x.told(173), 7);
        due("CLEAR", x.told(1), 127);
        due("the BAG stays", x.told(2), 9);
        due("again", x.house(7, 0, 0, 9, 9), 99);
        due("once more", x.house(7, 5, 0, 0, 0), 0);
        String were = all(x);
        due("house -1", x.house(-1, 0, 0, 0, 0), -1);
        due("house 8", x.house(8, 0, 0, 0, 0), -1);
        due("UNKNOWN first", x.house(8, 100, 10, 10, 10), -1);
        due("doubts 100", x.house(7, 100, 0, 0, 0), -2);
        due("doubts -1", x.house(7, -1, 0, 0, 0), -2);
        due("crumbs 10", x.house(7, 0, 10, 0, 0), -2);
        due("crumbs -1", x.house(7, 0, -1, 0, 0), -2);
        due("cages 10", x.house(7, 0, 0, 10, 0), -2);
        due("cages -1", x.house(7, 0, 0, -1, 0), -2);
        due("smell 10", x.house(7, 0, 0, 0, 10), -2);
        due("smell -1", x.house(7, 0, 0, 0, -1), -2);
        same("house", all(x), were);
    }

    private static void hole() {
        promise = 3;
        DoubtCatcher x = new DoubtCatcher();
        due("one", x.hole(0, 7, true), 1);
        due("the same, from the other end", x.hole(7, 0, true), 1);
        due("another", x.hole(7, 3, true), 2);
        due("of 0", x.told(10), 128);
        due("of 7", x.told(17), 9);
        due("none there", x.hole(1, 2, false), 2);
        due("stopped", x.hole(7, 0, false), 1);
        due("of 0", x.told(10), 0);
        due("of 7", x.told(17), 8);
        String were = all(x);
        due("one -1", x.hole(-1, 0, true), -1);
        due("one 8", x.hole(8, 0, true), -1);
        due("other -1", x.hole(0, -1, true), -1);
        due("other 8", x.hole(0, 8, true), -1);
        due("both one", x.hole(4, 4, true), -1);
        due("both one", x.hole(4, 4, false), -1);
        same("hole", all(x), were);
        int many = 1;
        for (int one = 0; one < 8; one++) {
            for (int other = one + 1; other < 8; other++) {
                many = x.hole(one, other, true);
            }
        }
        due("all", many, 28);
    }

    private static void bag() {
        promise = 4;
        DoubtCatcher x = new DoubtCatcher();
        due("first", x.bag(0), 9);
        due("then", x.bag(99), 0);
        due("then", x.bag(4), 99);
        due("100", x.bag(100), -2);
        due("-1", x.bag(-1), -2);
        due("told", x.told(2), 4);
    }

    private static void say() {
        promise = 5;
        DoubtCatcher x = new DoubtCatcher();
        due("32", x.say(32), -2);
        due("127", x.say(127), -2);
        due("far", x.say(Integer.MIN_VALUE), -2);
        due("none said", x.told(0), 0);
        due("33", x.say(33), 1);
        due("126", x.say(126), 2);
        for (int n = 3; n <= 60; n++) {
            due("sign " + n, x.say('.'), n);
        }
        due("FULL", x.say('.'), -4);
        due("OUTSIDE ahead of FULL", x.say(32), -2);
        due("told", x.told(0), 60);
    }

    private static void wipe() {
        promise = 6;
        DoubtCatcher x = new DoubtCatcher();
        due("empty", x.wipe(), 0);
        say(x, "A+?");
        due("three", x.wipe(), 3);
        due("again", x.wipe(), 0);
        due("no fault", x.fault(), -6);
    }

    private static void fault() {
        promise = 7;
        String[] texts = {"", ".", "A+", "H-", "B^", "C_", "D!", "oAB", "oAA", "oHA.", "A+B-...oCDE!",
            "A", "o", "oA", ".A", "A+o", "A+oB", "I+", "@+", "a+", "AA", "A.", "Ao", "A#", "o.", "oI", "oAI", "oA+",
            "ooA", "+", "-", "?", "..~", "A+!", "oABC"};
        int[] places = {-6, -6, -6, -6, -6, -6, -6, -6, -6, -6, -6,
            1, 1, 2, 2, 3, 4, 0, 0, 0, 1, 1, 1, 1, 1, 1, 2, 2,
            1, 0, 0, 0, 2, 2, 4};
        for (int i = 0; i < texts.length; i++) {
            due("'" + texts[i] + "'", with(texts[i]).fault(), places[i]);
        }
        DoubtCatcher x = with("A");
        due("more must come", x.fault(), 1);
        x.say('+');
        due("it has come", x.fault(), -6);
        x.say('+');
        due("it can not stand there", x.fault(), 2);
        x.say('A');
        due("still the first", x.fault(), 2);
    }

    private static void judged(DoubtCatcher x, String text, int act, int why) {
        pad(x, text);
        due("'" + text + "' judge(0)", x.judge(0), act);
        due("'" + text + "' judge(1)", x.judge(1), why);
        if (act != -6) {
            due("'" + text + "' judge(2)", x.judge(2), -3);
        }
    }

    private static void judge() {
        promise = 8;
        DoubtCatcher x = new DoubtCatcher();
        judged(x, "", -6, -6);
        judged(x, "A+A+A+A+A+A+A+A+A+", -6, -6);
        judged(x, "A+A+A+A+A+A+A+A+A+A+", 9, 1);
        judged(x, "A+A-B-", 2, 1);
        judged(x, "B^B^B^B^B^B^B^B^B^", -6, -6);
        judged(x, "A^B^B^B^B^B^B^B^B^B^", 9, 2);
        judged(x, "B^B^B^B^B^B^B^B^B^B^", 9, 1);
        judged(x, "B^B_B_", 2, 1);
        judged(x, "..C!", 2, 3);
        judged(x, "oAHoAA", 1, 4);
        judged(x, "oABoABoBA", -6, -6);
        x.house(2, 1, 0, 0, 0);
        judged(x, "C!C!", 1, 3);
        judged(x, "A-C!C!", 0, 1);
        for (int i = 0; i < 99; i++) {
            pad(x, ".");
            x.done();
        }
        judged(x, "A+.", 1, 5);
        due("week 99", x.told(4), 99);

        DoubtCatcher y = new DoubtCatcher();
        y.house(0, 5, 2, 3, 0);
        y.house(1, 2, 0, 9, 0);
        pad(y, "..");
        due("caught", y.judge(2), 8);
        y.done();
        pad(y, ".");
        due("caught in this text only", y.judge(2), 3);
        due("what -1", y.judge(-1), -2);
        due("what 3", y.judge(3), -2);
        pad(y, "A");
        due("OUTSIDE ahead of NO", y.judge(3), -2);
        for (int what = 0; what < 3; what++) {
            due("NO " + what, y.judge(what), -5);
        }
        pad(y, "oAAA");
        due("NO ahead of STATE", y.judge(2), -5);
    }

    private static void behind() {
        promise = 9;
        DoubtCatcher x = new DoubtCatcher();
        x.house(0, 7, 3, 1, 2);
        pad(x, "A+A+B^A_B+B-oAB");
        due("DOUBTS", x.behind(0, 0), 7);
        due("CRUMBS", x.behind(0, 1), 5);
        due("CAGES", x.behind(0, 2), 0);
        due("SMELL", x.behind(0, 3), 2);
        due("CAGES of B", x.behind(1, 2), 1);
        due("CRUMBS of B", x.behind(1, 1), 0);
        pad(x, "A!");
        due("half, cut", x.behind(0, 0), 3);
        due("SMELL 3", x.behind(0, 3), 3);
        x.house(0, 7, 0, 0, 9);
        due("SMELL is 3, be it more", x.behind(0, 3), 3);
        due("nothing is done", x.told(100), 7);
        due("house -1", x.behind(-1, 0), -1);
        due("UNKNOWN first", x.behind(8, 4), -1);
        due("what -1", x.behind(0, -1), -2);
        due("what 4", x.behind(0, 4), -2);
        pad(x, "A");
        due("UNKNOWN ahead of NO", x.behind(8, 0), -1);
        due("OUTSIDE ahead of NO", x.behind(0, 4), -2);
        due("NO", x.behind(0, 0), -5);
        pad(x, "A+B!");
        due("STATE", x.behind(0, 1), -3);
    }

    /** A week (promises 9 and 10 tell it): growth, CAGES, goings, SMELLS, in that order. */
    private static void week() {
        promise = 9;
        DoubtCatcher x = new DoubtCatcher();
        x.house(0, 3, 9, 0, 0);
        x.house(1, 95, 9, 2, 0);
        x.house(2, 0, 9, 9, 0);
        x.house(3, 4, 2, 9, 1);
        pad(x, ".");
        due("by as many as they are at most", x.behind(0, 0), 6);
        due("99 ahead of the CAGES", x.behind(1, 0), 97);
        due("of none comes none", x.behind(2, 0), 0);
        due("CAGES take what there is", x.behind(3, 0), 0);
        due("the SACK", x.town(2), 8);
        due("SMELL a week less", x.behind(3, 3), 0);

        DoubtCatcher y = new DoubtCatcher();
        y.hole(0, 1, true);
        y.hole(0, 2, true);
        y.hole(0, 3, true);
        y.house(0, 9, 1, 0, 0);
        y.house(1, 6, 0, 0, 0);
        y.house(2, 5, 0, 0, 0);
        y.house(3, 5, 0, 0, 0);
        pad(y, ".");
        due("10 behind the growth: one goes", y.behind(0, 0), 9);
        due("not to the more", y.behind(1, 0), 6);
        due("the least of as few", y.behind(2, 0), 6);
        due("not to it", y.behind(3, 0), 5);
        y.house(0, 9, 0, 0, 0);
        due("9 stay", y.behind(0, 0), 9);
        y.house(0, 10, 0, 1, 0);
        due("10, but one in the CAGE: 9 stay", y.behind(0, 0), 9);
        y.house(0, 1, 0, 0, 1);
        due("a SMELL drives one out", y.behind(0, 0), 0);
        y.house(0, 0, 0, 0, 9);
        due("there is none to go", y.behind(2, 0), 5);
        y.house(4, 50, 0, 0, 9);
        due("no HOLE leads from it", y.behind(4, 0), 50);

        DoubtCatcher z = new DoubtCatcher();
        z.hole(0, 1, true);
        z.hole(1, 2, true);
        z.house(0, 99, 0, 0, 0);
        z.house(1, 99, 0, 0, 0);
        z.house(2, 99, 0, 0, 0);
        pad(z, ".");
        due("one goes, one comes", z.behind(0, 0), 99);
        due("99 at most", z.behind(1, 0), 99);
        due("two come, one goes", z.town(0), 296);
        z.house(0, 10, 0, 0, 0);
        z.house(1, 9, 0, 0, 0);
        z.house(2, 10, 0, 0, 0);
        due("all at once: 9 does not go yet", z.behind(1, 0), 11);

        DoubtCatcher v = new DoubtCatcher();
        v.hole(0, 2, true);
        v.hole(0, 3, true);
        v.hole(1, 2, true);
        v.hole(1, 3, true);
        v.house(0, 10, 0, 0, 0);
        v.house(1, 10, 0, 0, 0);
        v.house(2, 4, 0, 0, 0);
        v.house(3, 4, 0, 0, 0);
        pad(v, ".");
        due("as they were ahead of any going: both to C", v.behind(2, 0), 6);
        due("as they were ahead of any going: none to D", v.behind(3, 0), 4);
    }

    private static void town() {
        promise = 10;
        DoubtCatcher x = new DoubtCatcher();
        x.house(0, 5, 2, 3, 0);
        x.house(7, 2, 0, 2, 0);
        pad(x, "B^..H_");
        due("DOUBTS", x.town(0), 3);
        due("the BAG", x.town(1), 9);
        due("the SACK", x.town(2), 8);
        due("the week", x.town(3), 2);
        due("CLEAR", x.town(4), 254);
        x.bag(99);
        pad(x, "H_");
        due("99 at most in the BAG", x.town(1), 99);
        due("what -1", x.town(-1), -2);
        due("what 5", x.town(5), -2);
        pad(x, "H");
        due("OUTSIDE ahead of NO", x.town(5), -2);
        due("NO", x.town(0), -5);
        pad(x, "G-");
        due("STATE", x.town(0), -3);
    }

    private static void ridBy(DoubtCatcher x, String text, int act, int house) {
        pad(x, text);
        due("'" + text + "' rid(0)", x.rid(0), act);
        due("'" + text + "' rid(1)", x.rid(1), house);
    }

    private static void rid() {
        promise = 11;
        DoubtCatcher x = new DoubtCatcher();
        ridBy(x, "", -6, -6);
        ridBy(x, "..", -6, -6);
        x.house(5, 1, 0, 1, 0);
        x.house(3, 1, 0, 1, 0);
        x.house(6, 3, 0, 0, 0);
        ridBy(x, "A+.", 1, 3);
        ridBy(x, "F!.", 0, 5);
        ridBy(x, "G!G!", 1, 6);
        ridBy(x, "G!.G!", 1, 3);
        due("what -1", x.rid(-1), -2);
        due("what 2", x.rid(2), -2);
        pad(x, "A");
        due("OUTSIDE ahead of NO", x.rid(2), -2);
        due("NO", x.rid(0), -5);
        pad(x, ".A-");
        due("STATE, though one is rid", x.rid(0), -3);

        DoubtCatcher y = new DoubtCatcher();
        y.hole(0, 1, true);
        y.house(0, 1, 0, 0, 9);
        y.house(1, 1, 0, 0, 9);
        ridBy(y, "..", -6, -6);
        y.house(1, 0, 0, 0, 0);
        ridBy(y, ".", 0, 0);
        ridBy(y, "B^..", 1, 0);
    }

    private static void done() {
        promise = 12;
        DoubtCatcher x = new DoubtCatcher();
        due("empty", x.done(), 0);
        x.house(0, 4, 9, 0, 0);
        pad(x, "A^oAH.A!B+");
        due("ACTS", x.done(), 5);
        due("the PAD is empty", x.told(0), 0);
        due("DOUBTS", x.told(100), 3);
        due("SMELL", x.told(103), 3);
        due("the BAG", x.told(2), 8);
        due("the SACK", x.told(3), 1);
        due("the week", x.told(4), 1);
        due("HOLES", x.told(17), 1);
        pad(x, "B+C");
        String were = all(x);
        due("NO", x.done(), -5);
        same("done", all(x), were);
        pad(x, "B+C-");
        were = all(x);
        due("STATE", x.done(), -3);
        same("done", all(x), were);
        StringBuilder weeks = new StringBuilder();
        for (int i = 0; i < 60; i++) {
            weeks.append('.');
        }
        pad(x, weeks.toString());
        due("60 ACTS", x.done(), 60);
        due("61 weeks", x.told(4), 61);
        pad(x, weeks.substring(0, 39));
        due("too many by one", x.judge(0), 38);
        due("STATE", x.done(), -3);
    }

    private static void alone() {
        promise = 13;
        DoubtCatcher x = new DoubtCatcher();
        due("CLEAR already", x.alone(0, 9, 9, 0), 0);
        due("1, a CAGE", x.alone(1, 0, 1, 0), 1);
        due("doubled and caught", x.alone(1, 9, 2, 0), 1);
        due("never", x.alone(1, 1, 1, 0), -6);
        due("no CAGES", x.alone(1, 0, 0, 0), -6);
        due("7 by 3", x.alone(7, 0, 3, 0), 3);
        due("99 by 1", x.alone(99, 0, 1, 0), 99);
        due("99 already", x.alone(99, 0, 9, 1), 0);
        due("99 and a CRUMB", x.alone(90, 4, 0, 1), 3);
        due("1 a week", x.alone(1, 1, 0, 1), 98);
        due("the CAGE takes the 99th", x.alone(98, 9, 1, 1), -6);
        due("none of none", x.alone(0, 9, 0, 1), -6);
        int[][] bad = {{-1, 0, 0, 0}, {100, 0, 0, 0}, {0, -1, 0, 0}, {0, 10, 0, 0}, {0, 0, -1, 0}, {0, 0, 10, 0},
            {0, 0, 0, -1}, {0, 0, 0, 2}};
        for (int[] b : bad) {
            due("bad " + b[0] + b[1] + b[2] + b[3], x.alone(b[0], b[1], b[2], b[3]), -2);
        }
    }

    private static void terriers() {
        promise = 14;
        DoubtCatcher x = new DoubtCatcher();
        due("no HOLES", x.terriers(0), 0);
        due("no HOLES", x.terriers(1), 0);
        x.hole(6, 7, true);
        due("one HOLE", x.terriers(1), 64);
        x.hole(5, 7, true);
        due("two at 7", x.terriers(0), 1);
        due("two at 7", x.terriers(1), 128);
        x.hole(5, 6, true);
        due("three round", x.terriers(0), 2);
        due("three round", x.terriers(1), 96);
        pad(x, "oAB");
        due("as they are now", x.terriers(0), 2);
        for (int one = 0; one < 8; one++) {
            for (int other = one + 1; other < 8; other++) {
                x.hole(one, other, true);
            }
        }
        due("all", x.terriers(0), 7);
        due("all", x.terriers(1), 127);
        due("what -1", x.terriers(-1), -2);
        due("what 2", x.terriers(2), -2);
    }

    private static void heard() {
        promise = 15;
        DoubtCatcher x = new DoubtCatcher();
        due("none", x.heard(12, 34, 2, 0), 0);
        due("none", x.heard(12, 34, 2, 1), 0);
        due("noughts ahead are digits", x.heard(12, 34, 3, 0), 1);
        due("noughts ahead are digits", x.heard(12, 34, 3, 1), 0);
        due("others between", x.heard(15253, 61723, 5, 0), 3);
        due("others between", x.heard(15253, 61723, 5, 1), 123);
        due("the least", x.heard(2112, 1221, 4, 0), 2);
        due("the least", x.heard(2112, 1221, 4, 1), 11);
        due("all", x.heard(999999999, 999999999, 9, 0), 9);
        due("all", x.heard(999999999, 999999999, 9, 1), 999999999);
        due("less digits behind more", x.heard(34, 12, 2, 0), 0);
        due("less digits behind more", x.heard(9, 0, 1, 0), 0);
        due("n 0", x.heard(0, 0, 0, 0), -2);
        due("n 10", x.heard(0, 0, 10, 0), -2);
        due("n far", x.heard(0, 0, Integer.MAX_VALUE, 0), -2);
        due("one of more", x.heard(100, 0, 2, 0), -2);
        due("other of more", x.heard(0, 100, 2, 0), -2);
        due("one below 0", x.heard(-1, 0, 2, 0), -2);
        due("other below 0", x.heard(0, -1, 2, 0), -2);
        due("of ten digits", x.heard(1000000000, 0, 9, 0), -2);
        due("what -1", x.heard(0, 0, 2, -1), -2);
        due("what 2", x.heard(0, 0, 2, 2), -2);
    }

    private static void gnawed() {
        promise = 16;
        DoubtCatcher x = new DoubtCatcher();
        due("one", x.gnawed(0, 0), 1);
        due("two", x.gnawed(40, 99), 2);
        for (int n = 3; n <= 8; n++) {
            due("the same again", x.gnawed(40, 99), n);
        }
        due("FULL", x.gnawed(1, 1), -4);
        due("OUTSIDE ahead of FULL", x.gnawed(41, 1), -2);
        due("weeks -1", x.gnawed(-1, 1), -2);
        due("v -1", x.gnawed(1, -1), -2);
        due("v 100", x.gnawed(1, 100), -2);
        due("told", x.told(5), 8);
    }

    private static void forget() {
        promise = 17;
        DoubtCatcher x = new DoubtCatcher();
        due("none", x.forget(), 0);
        x.gnawed(0, 5);
        x.gnawed(1, 7);
        due("one fits", x.fits(-1), 1);
        due("two", x.forget(), 2);
        due("all fit", x.fits(-1), 90);
        due("told", x.told(5), 0);
        x.gnawed(0, 4);
        due("only the new", x.fits(0), 40);
    }

    private static void fits() {
        promise = 18;
        DoubtCatcher x = new DoubtCatcher();
        due("all", x.fits(-1), 90);
        for (int i = 0; i < 90; i++) {
            due("the " + i + "th", x.fits(i), 10 + i);
        }
        due("90", x.fits(90), -6);
        due("-2", x.fits(-2), -6);
        due("far", x.fits(Integer.MIN_VALUE), -6);
        due("far", x.fits(Integer.MAX_VALUE), -6);
        x.gnawed(1, 8);
        int[] want = {44, 45, 46, 47, 48, 49, 53, 62, 71, 80};
        due("8 behind a week", x.fits(-1), want.length);
        for (int i = 0; i < want.length; i++) {
            due("8 behind a week, " + i, x.fits(i), want[i]);
        }
        due("no more", x.fits(10), -6);
        x.gnawed(2, 14);
        due("14 behind two", x.fits(-1), 1);
        due("14 behind two", x.fits(0), 46);
        x.gnawed(1, 9);
        due("at odds", x.fits(-1), 0);
        due("at odds", x.fits(0), -6);
        x.gnawed(1, 8);
        due("still at odds", x.fits(-1), 0);
        x.forget();
        x.gnawed(0, 0);
        due("none in week 0", x.fits(-1), 0);
    }

    private static void ask() {
        promise = 19;
        DoubtCatcher x = new DoubtCatcher();
        x.gnawed(0, 7);
        due("of 10 CRUMBS, behind a week", x.ask(0), 2);
        due("of 10 CRUMBS", x.ask(1), 1);
        x.gnawed(1, 9);
        due("one fits", x.ask(0), 0);
        due("one fits", x.ask(1), 1);
        x.gnawed(1, 10);
        due("nothing fits", x.ask(0), -6);
        due("nothing fits", x.ask(1), -6);
        due("what -1", x.ask(-1), -2);
        due("OUTSIDE ahead of NONE", x.ask(2), -2);
        x.forget();
        x.gnawed(0, 9);
        due("9 at first", x.ask(0), 1);
        due("9 at first", x.ask(1), 1);
        x.forget();
        x.gnawed(0, 1);
        due("1 at first: 5 weeks part all but 8 and 9", x.ask(1), 1);
        due("1 at first", x.ask(0), 5);
    }

    private static void chase() {
        promise = 20;
        DoubtCatcher x = new DoubtCatcher();
        due("there", x.chase(3, 3, 0), 0);
        due("there", x.chase(3, 3, 1), -6);
        due("no HOLE", x.chase(3, 4, 0), -6);
        due("no HOLE", x.chase(3, 4, 1), -6);
        for (int h = 0; h < 7; h++) {
            x.hole(h, h + 1, true);
        }
        due("beside", x.chase(3, 4, 0), 1);
        due("beside", x.chase(3, 4, 1), 4);
        due("along the row", x.chase(0, 1, 0), 1);
        due("along the row", x.chase(0, 2, 0), 7);
        due("along the row", x.chase(0, 7, 0), 7);
        due("along the row", x.chase(7, 0, 1), 6);
        x.hole(0, 7, true);
        due("round", x.chase(0, 2, 0), -6);
        due("round", x.chase(0, 2, 1), -6);
        due("round, beside", x.chase(0, 7, 0), 1);
        DoubtCatcher y = new DoubtCatcher();
        y.hole(0, 1, true);
        y.hole(1, 2, true);
        y.hole(2, 3, true);
        y.hole(3, 0, true);
        due("four round", y.chase(0, 2, 0), -6);
        y.hole(1, 3, true);
        due("four with a way across", y.chase(0, 2, 0), 2);
        due("the least way", y.chase(0, 2, 1), 1);
        due("catcher -1", y.chase(-1, 0, 0), -1);
        due("catcher 8", y.chase(8, 0, 0), -1);
        due("rat -1", y.chase(0, -1, 0), -1);
        due("UNKNOWN first", y.chase(0, 8, 2), -1);
        due("what -1", y.chase(0, 0, -1), -2);
        due("what 2", y.chase(0, 1, 2), -2);
    }

    private static void ever() {
        promise = 21;
        DoubtCatcher x = new DoubtCatcher();
        due("as likely", x.ever(6, 2, 5, 0), 2);
        due("as likely", x.ever(6, 2, 5, 1), 3);
        due("one less with 9 tenths", x.ever(2, 1, 1, 0), 9);
        due("one less with 9 tenths", x.ever(2, 1, 1, 1), 10);
        due("one less with a tenth", x.ever(2, 1, 9, 0), 1);
        due("one less with a tenth", x.ever(2, 1, 9, 1), 10);
        for (int t = 1; t <= 9; t++) {
            due("CLEAR", x.ever(16, 0, t, 0), 1);
            due("CLEAR", x.ever(16, 0, t, 1), 1);
            due("given up", x.ever(16, 16, t, 0), 0);
            due("given up", x.ever(16, 16, t, 1), 1);
        }
        long out = -1000000000000000002L;
        int[][] bad = {{0, 0, 5, 0}, {17, 0, 5, 0}, {-1, 0, 5, 0}, {5, -1, 5, 0}, {5, 6, 5, 0}, {5, 1, 0, 0},
            {5, 1, 10, 0}, {5, 1, 5, -1}, {5, 1, 5, 2}};
        for (int[] b : bad) {
            due("bad " + b[0] + " " + b[1] + " " + b[2] + " " + b[3], x.ever(b[0], b[1], b[2], b[3]), out);
        }
    }

    private static void year() {
        promise = 22;
        DoubtCatcher x = new DoubtCatcher();
        x.house(0, 40, 3, 2, 0);
        x.house(2, 7, 1, 0, 0);
        String were = all(x);
        // 0 becomes 74: HOUSE 2, 1 left over of 9: a CRUMB less; then 5624: HOUSE 0, 7: a week.
        due("a CRUMB less and a week", x.year(0, 2, 0), 48);
        due("the SACK", x.year(0, 2, 1), 2);
        due("CLEAR", x.year(0, 2, 2), 6);
        same("year", all(x), were);
        due("one ACT", x.year(0, 1, 0), 47);
        due("seed -1", x.year(-1, 1, 0), -2);
        due("seed 10000", x.year(10000, 1, 0), -2);
        due("m 0", x.year(0, 0, 0), -2);
        due("m 100", x.year(0, 100, 0), -2);
        due("what -1", x.year(0, 1, -1), -2);
        due("what 3", x.year(0, 1, 3), -2);
        pad(x, "A");
        due("whatever is on the PAD", x.year(0, 2, 0), 48);

        DoubtCatcher y = new DoubtCatcher();
        for (int h = 0; h < 8; h++) {
            y.house(h, 10 + h, 1, 0, 0);
        }
        // 20 becomes 1574: G, 4, z 24; 2 becomes 224: A, 4, z 3; 37 becomes 2849: B, 4, z 44.
        due("arsenic in G", y.year(20, 1, 0), 108 - 8);
        due("no arsenic in A", y.year(2, 1, 0), 108);
        due("arsenic in B", y.year(37, 1, 0), 108 - 6);
        // 9 becomes 749: a HOLE of F to D (z 11); then a week.
        y.house(3, 0, 0, 0, 0);
        due("one goes by the HOLE", y.year(9, 2, 2), 0);
        due("no HOLE yet", y.year(4, 1, 2), 1);
        // 218 becomes 16424: a HOLE of A to A can not be; then 52208: a week.
        due("what can not be is left out", y.year(218, 2, 0), 95 + 7);
        // 1 becomes 149: a CAGE in F; then a week: by 1 each but D.
        due("a CAGE and a week", y.year(1, 2, 0), 95 + 7 - 1);
        due("a CAGE and a week", y.year(1, 2, 1), 1);
        y.bag(0);
        due("no CAGE in the BAG", y.year(1, 2, 1), 0);
        // 46 becomes 3524: a CRUMB in E; then a week.
        due("a CRUMB and a week", y.year(46, 2, 0), 95 + 8);
        y.house(4, 14, 9, 0, 0);
        due("9 CRUMBS already", y.year(46, 2, 0), 95 + 6 + 9);
        // 19 becomes 1499: a CAGE of D goes back; then a week.
        y.house(3, 20, 0, 2, 0);
        due("a CAGE goes back", y.year(19, 2, 1), 1);
        for (int i = 0; i < 99; i++) {
            pad(y, ".");
            y.done();
        }
        int sack = y.told(3);
        due("the SACK from as it is", sack > 0 ? y.year(1, 2, 1) : -1, sack);
    }

    private static void image() {
        promise = 23;
        DoubtCatcher x = with("A+");
        due("0", x.image(0), 1);
        due("1", x.image(1), 1);
        due("-1", x.image(-1), -2);
        due("2", x.image(2), -2);
        due("the PAD stays", x.told(0), 2);
        x.bag(50);
        due("again", x.image(0), 1);
        x.bag(60);
        x.restore(0);
        due("the newer", x.told(2), 50);
        x.restore(1);
        due("the older", x.told(2), 9);
    }

    private static void restore() {
        promise = 24;
        DoubtCatcher x = new DoubtCatcher();
        due("not kept", x.restore(0), -3);
        x.house(0, 5, 1, 2, 3);
        x.hole(0, 1, true);
        x.gnawed(1, 8);
        x.gnawed(2, 14);
        pad(x, ".");
        x.done();
        String were = all(x);
        x.image(1);
        due("the other is not kept", x.restore(0), -3);
        x.house(0, 9, 9, 9, 9);
        x.house(1, 9, 9, 9, 9);
        x.hole(0, 1, false);
        x.hole(5, 6, true);
        x.forget();
        x.gnawed(0, 3);
        pad(x, "..");
        x.done();
        pad(x, "A");
        due("1", x.restore(1), 1);
        due("the PAD stays", x.wipe(), 1);
        same("restore", all(x), were);
        due("SIGHTS too", x.fits(0), 46);
        x.house(0, 77, 0, 0, 0);
        x.gnawed(3, 3);
        due("once more", x.restore(1), 1);
        same("restore", all(x), were);
        due("-1", x.restore(-1), -2);
        due("2", x.restore(2), -2);
    }

    private static void told() {
        promise = 25;
        DoubtCatcher x = new DoubtCatcher();
        x.house(3, 12, 4, 5, 6);
        x.house(0, 2, 0, 3, 0);
        x.hole(3, 7, true);
        x.bag(33);
        x.gnawed(4, 4);
        pad(x, "..");
        x.done();
        pad(x, "A+B");
        due("signs", x.told(0), 3);
        due("CLEAR", x.told(1), 119);
        due("the BAG", x.told(2), 33);
        due("the SACK", x.told(3), 12);
        due("the week", x.told(4), 2);
        due("SIGHTS", x.told(5), 1);
        due("HOLES", x.told(13), 128);
        due("HOLES", x.told(17), 8);
        due("DOUBTS", x.told(130), 8);
        due("CRUMBS", x.told(131), 4);
        due("CAGES", x.told(132), 5);
        due("SMELL", x.told(133), 4);
        int[] bad = {-1, 6, 7, 9, 18, 19, 99, 104, 109, 114, 174, 179, 180, 1000, Integer.MAX_VALUE, Integer.MIN_VALUE};
        for (int b : bad) {
            due("told(" + b + ")", x.told(b), -2);
        }
    }
}
