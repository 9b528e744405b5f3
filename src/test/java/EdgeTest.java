/**
 * One method a sentence of ../shared/DOC.md that names a bound: the last number inside and the first beyond it, what is
 * empty, what is full. (RefusalTest has that refused calls change nothing, and their order.) No object is used for more
 * than 512 calls: what later ones answer is free.
 */
public final class EdgeTest {
    private static final int UNKNOWN = -1, OUTSIDE = -2, STATE = -3, FULL = -4, NO = -5, NONE = -6;
    private static final String LETTERS = "ABCDEFGH";
    private static int wrong = 0;

    public static void main(String[] args) {
        terms();
        weeks();
        aloneTerriersHeard();
        breedingChasesChance();
        imagesAndTold();
        System.out.println(wrong == 0 ? "every bound holds" : wrong + " answers are not as due");
        if (wrong != 0) {
            System.exit(1);
        }
    }

    private static void terms() {
        atFirst();
        housesAreAToH();
        numbersOfAHouse();
        holesLeadBothWays();
        theBagHas0To99();
        signsAre33To126();
        thePadHas60Signs();
        theFault();
        theFaultOfAFullPad();
    }

    private static void weeks() {
        crumbsAre0To9();
        cagesAre0To9();
        theBagIsEmptyOrFull();
        arsenic();
        bothAreOne();
        theLeastReason();
        itIsWeek99();
        doubtsGrow();
        cagesTake();
        tenAtLeastOrASmell();
        toThatOfLeast();
        allAtOnce99AtMost();
        smellsWearOff();
        anEmptyPad();
        judged();
        town();
        rid();
        done();
    }

    private static void aloneTerriersHeard() {
        alone();
        terriers();
        heard();
        heardOfEachLength();
    }

    private static void breedingChasesChance() {
        sightsAre8AtMost();
        sightsOfEachWeek();
        fits();
        ask();
        chase();
        everAtItsBounds();
        everInBetween();
        yearsBounds();
        yearsActs();
        yearsWeeks();
    }

    private static void imagesAndTold() {
        images();
        imagesOfWhatIsFull();
        told();
        the512thCall();
    }

    // ---- what all of these need

    private static void due(String call, long got, long want) {
        if (got != want) {
            wrong++;
            System.out.println(call + " answered " + got + ", due is " + want);
        }
    }

    private static DoubtCatcher pad(DoubtCatcher x, String text) {
        x.wipe();
        for (int i = 0; i < text.length(); i++) {
            due("'" + text + "' say " + i, x.say(text.charAt(i)), i + 1);
        }
        return x;
    }

    /** HOUSE A with these, and a text on the PAD. */
    private static DoubtCatcher houseA(int doubts, int crumbs, int cages, int smell, String text) {
        DoubtCatcher x = new DoubtCatcher();
        due("house", x.house(0, doubts, crumbs, cages, smell), 0);
        return pad(x, text);
    }

    /** HOUSES A, B, .. with these DOUBTS, and HOLES told by two letters each. */
    private static DoubtCatcher town(String holes, int... doubts) {
        DoubtCatcher x = new DoubtCatcher();
        for (int h = 0; h < doubts.length; h++) {
            x.house(h, doubts[h], 0, 0, 0);
        }
        for (int i = 0; i + 1 < holes.length(); i += 2) {
            x.hole(holes.charAt(i) - 'A', holes.charAt(i + 1) - 'A', true);
        }
        return x;
    }

    private static void doubtsBehind(String call, DoubtCatcher x, int... want) {
        for (int h = 0; h < want.length; h++) {
            due(call + ": DOUBTS of " + h, x.behind(h, 0), want[h]);
        }
    }

    private static String times(String text, int many) {
        StringBuilder all = new StringBuilder();
        for (int i = 0; i < many; i++) {
            all.append(text);
        }
        return all.toString();
    }

    private static DoubtCatcher atWeek(DoubtCatcher x, int week) {
        for (int left = week; left > 0; left -= 60) {
            pad(x, times(".", Math.min(left, 60)));
            x.done();
        }
        due("week", x.told(4), week);
        return x;
    }

    private static void judgedSo(String call, DoubtCatcher x, int act, int why) {
        due(call + " judge(0)", x.judge(0), act);
        due(call + " judge(1)", x.judge(1), why);
        due(call + " fault", x.fault(), NONE);
        if (act != NONE) {
            due(call + " judge(2)", x.judge(2), STATE);
            due(call + " done", x.done(), STATE);
        }
    }

    private static void canBe(String call, DoubtCatcher x) {
        judgedSo(call, x, NONE, NONE);
    }

    // ---- HOUSES, HOLES, the BAG, the PAD

    /** "All CLEAR", "all 0 at first", "not, at first", "9 at first", "0 DOUBTS at first", "week 0 at first". */
    private static void atFirst() {
        DoubtCatcher x = new DoubtCatcher();
        int[] want = {0, 255, 9, 0, 0, 0};
        for (int what = 0; what < 6; what++) {
            due("at first told " + what, x.told(what), want[what]);
        }
        for (int h = 0; h < 8; h++) {
            due("at first HOLES of " + h, x.told(10 + h), 0);
            for (int what = 0; what < 4; what++) {
                due("at first told", x.told(100 + 10 * h + what), 0);
                due("at first behind", x.behind(h, what), 0);
            }
        }
        due("at first fault", x.fault(), NONE);
        due("at first all fit", x.fits(-1), 90);
        due("at first wipe", x.wipe(), 0);
        due("at first forget", x.forget(), 0);
        due("at first done", x.done(), 0);
        due("at first bag", x.bag(9), 9);
    }

    /** "HOUSES 0 to 7 (A to H)". */
    private static void housesAreAToH() {
        for (int h = 0; h < 8; h++) {
            DoubtCatcher x = new DoubtCatcher();
            due("house " + h, x.house(h, 7, 0, 0, 0), 0);
            due("CLEAR but " + h, x.told(1), 255 - (1 << h));
            pad(x, LETTERS.charAt(h) + "+");
            canBe("a CRUMB in " + h, x);
            for (int other = 0; other < 8; other++) {
                due("CRUMBS of " + other, x.behind(other, 1), other == h ? 1 : 0);
            }
        }
        String beyond = "@IZah";
        for (int i = 0; i < beyond.length(); i++) {
            due("letter " + beyond.charAt(i), pad(new DoubtCatcher(), beyond.charAt(i) + "+").fault(), 0);
        }
        DoubtCatcher y = new DoubtCatcher();
        due("house -1", y.house(-1, 0, 0, 0, 0), UNKNOWN);
        due("house 8", y.house(8, 0, 0, 0, 0), UNKNOWN);
        due("behind -1", y.behind(-1, 0), UNKNOWN);
        due("behind 8", y.behind(8, 0), UNKNOWN);
        due("chase -1, 0", y.chase(-1, 0, 0), UNKNOWN);
        due("chase 0, 8", y.chase(0, 8, 0), UNKNOWN);
        due("chase 7, 7", y.chase(7, 7, 0), 0);
    }

    /** "DOUBTS (0 to 99), CRUMBS (0 to 9), CAGES (0 to 9), a SMELL (0 to 9 weeks)"; "how many DOUBTS there were". */
    private static void numbersOfAHouse() {
        int[] most = {99, 9, 9, 9};
        for (int which = 0; which < 4; which++) {
            DoubtCatcher x = new DoubtCatcher();
            int[] v = new int[4];
            int were = 0;
            int[] inside = {0, 1, most[which] - 1, most[which]};
            for (int in : inside) {
                v[which] = in;
                due("number " + which + " " + in, x.house(5, v[0], v[1], v[2], v[3]), were);
                were = v[0];
                for (int what = 0; what < 4; what++) {
                    due("told", x.told(150 + what), v[what]);
                }
            }
            int[] beyond = {-1, most[which] + 1};
            for (int out : beyond) {
                v[which] = out;
                due("number " + which + " " + out, x.house(5, v[0], v[1], v[2], v[3]), OUTSIDE);
            }
            due("as it was", x.told(150 + which), most[which]);
        }
    }

    /** "HOLES lead between two of them, both ways, or do not"; "how many there are"; "UNKNOWN: both, both one". */
    private static void holesLeadBothWays() {
        DoubtCatcher x = new DoubtCatcher();
        int many = 0;
        for (int one = 0; one < 8; one++) {
            for (int other = 0; other < one; other++) {
                due("none is stopped", x.hole(one, other, false), many);
                many++;
                due("made", x.hole(one, other, true), many);
                due("there is one", x.hole(other, one, true), many);
            }
            due("both one", x.hole(one, one, true), UNKNOWN);
        }
        due("all", many, 28);
        for (int h = 0; h < 8; h++) {
            due("HOLES of " + h, x.told(10 + h), 255 - (1 << h));
        }
        for (int one = 0; one < 8; one++) {
            for (int other = one + 1; other < 8; other++) {
                many--;
                due("stopped from the other end", x.hole(one, other, false), many);
            }
        }
        for (int h = 0; h < 8; h++) {
            due("HOLES of " + h, x.told(10 + h), 0);
        }
        due("-1", x.hole(-1, 1, true), UNKNOWN);
        due("8", x.hole(1, 8, true), UNKNOWN);
        due("both 8", x.hole(8, 8, true), UNKNOWN);
    }

    /** "The BAG has 0 to 99 CAGES (9 at first)"; "how many there were". */
    private static void theBagHas0To99() {
        DoubtCatcher x = new DoubtCatcher();
        int were = 9;
        int[] inside = {0, 1, 98, 99};
        for (int v : inside) {
            due("bag " + v, x.bag(v), were);
            due("told", x.told(2), v);
            were = v;
        }
        due("bag -1", x.bag(-1), OUTSIDE);
        due("bag 100", x.bag(100), OUTSIDE);
        due("as it was", x.told(2), 99);
    }

    /** "codes 33 to 126": be they ACTS or not. */
    private static void signsAre33To126() {
        DoubtCatcher x = new DoubtCatcher();
        for (int sign = 33; sign <= 126; sign++) {
            due("sign " + sign, x.say(sign), 1);
            due("one goes", x.wipe(), 1);
        }
        due("sign 32", x.say(32), OUTSIDE);
        due("sign 127", x.say(127), OUTSIDE);
        due("none stands", x.told(0), 0);
        due("no FAULT", x.fault(), NONE);
    }

    /** "a PAD of up to 60 signs"; "A sign more: how many. OUTSIDE; FULL"; "Signs go: how many there were". */
    private static void thePadHas60Signs() {
        DoubtCatcher x = new DoubtCatcher();
        for (int round = 0; round < 2; round++) {
            pad(x, times("A+A-", 15));
            due("full", x.told(0), 60);
            due("FULL", x.say('.'), FULL);
            due("OUTSIDE ahead of FULL", x.say(32), OUTSIDE);
            due("still 60", x.told(0), 60);
            canBe("30 ACTS", x);
            due("wipe", x.wipe(), 60);
            due("wipe", x.wipe(), 0);
        }
        pad(x, times(".", 60));
        due("60 ACTS", x.done(), 60);
        due("room again", x.say('.'), 1);
        pad(x, times("oAB", 20));
        due("20 ACTS", x.done(), 20);
        due("week", x.told(4), 60);
        due("as often made as stopped", x.told(10), 0);
    }

    /** "the place (from 0 on) of the first sign that can not stand there": each sign at each kind of place. */
    private static void theFault() {
        String[] begun = {"", "A", "o", "oA", "A+oBC.", ".H", "A!o", "..oE"};
        String[] standing = {LETTERS + "o.", "+-^_!", LETTERS, LETTERS, LETTERS + "o.", "+-^_!", LETTERS, LETTERS};
        int[] moreOf = {0, 0, 1, 0, 0, 0, 1, 0};
        for (int i = 0; i < begun.length; i++) {
            for (int sign = 33; sign <= 126; sign++) {
                String text = begun[i] + (char) sign;
                boolean stands = standing[i].indexOf(sign) >= 0;
                boolean open = moreOf[i] == 1 || standing[i].length() == 10 && sign != '.';
                int whole = open ? text.length() : NONE;
                due("fault of " + text, pad(new DoubtCatcher(), text).fault(), stands ? whole : begun[i].length());
            }
        }
        DoubtCatcher x = pad(new DoubtCatcher(), "~A+");
        due("at place 0", x.fault(), 0);
        pad(x, "A+~..A");
        due("the first, not the last", x.fault(), 2);
    }

    /** "or the number of signs, if more must come": the last of 60, and there is no room for it. */
    private static void theFaultOfAFullPad() {
        DoubtCatcher x = pad(new DoubtCatcher(), times(".", 59) + "A");
        due("more must come", x.fault(), 60);
        due("NO", x.done(), NO);
        due("FULL", x.say('+'), FULL);
        due("still", x.fault(), 60);
        pad(x, times(".", 58) + "oA");
        due("more must come", x.fault(), 60);
        pad(x, times(".", 59) + "~");
        due("the last sign", x.fault(), 59);
        pad(x, times(".", 60));
        due("whole", x.fault(), NONE);
    }

    // ---- ACTS

    /** "there are 9 CRUMBS already (+), none (-)". */
    private static void crumbsAre0To9() {
        DoubtCatcher x = houseA(0, 8, 0, 0, "A+");
        canBe("8 and one", x);
        due("9", x.behind(0, 1), 9);
        judgedSo("9 and one", houseA(0, 9, 0, 0, "A+"), 0, 1);
        judgedSo("8 and two", houseA(0, 8, 0, 0, "A+A+"), 1, 1);
        DoubtCatcher y = houseA(0, 1, 0, 0, "A-");
        canBe("1 less one", y);
        due("0", y.behind(0, 1), 0);
        judgedSo("0 less one", houseA(0, 0, 0, 0, "A-"), 0, 1);
        judgedSo("1 less two", houseA(0, 1, 0, 0, "A-A-"), 1, 1);
        judgedSo("of another", houseA(0, 9, 0, 0, "A-B-"), 1, 1);
    }

    /** "9 CAGES already (^), none (_)". */
    private static void cagesAre0To9() {
        DoubtCatcher x = houseA(0, 0, 8, 0, "A^");
        canBe("8 and one", x);
        due("9", x.behind(0, 2), 9);
        due("of the BAG", x.town(1), 8);
        judgedSo("9 and one", houseA(0, 0, 9, 0, "A^"), 0, 1);
        judgedSo("8 and two", houseA(0, 0, 8, 0, "A^A^"), 1, 1);
        DoubtCatcher y = houseA(0, 0, 1, 0, "A_");
        canBe("1 less one", y);
        due("0", y.behind(0, 2), 0);
        due("to the BAG", y.town(1), 10);
        judgedSo("0 less one", houseA(0, 0, 0, 0, "A_"), 0, 1);
        judgedSo("1 less two", houseA(0, 0, 1, 0, "A_A_"), 1, 1);
    }

    /** "the BAG is empty (^)"; "one goes back to the BAG, 99 at most". */
    private static void theBagIsEmptyOrFull() {
        DoubtCatcher x = houseA(0, 0, 0, 0, "A^");
        x.bag(1);
        canBe("the last one", x);
        due("none left", x.town(1), 0);
        x.bag(0);
        judgedSo("empty", x, 0, 2);
        pad(x, "A^A^");
        x.bag(1);
        judgedSo("empty then", x, 1, 2);
        pad(x, "A^A_B^");
        canBe("back, and set again", x);
        due("where to", x.behind(1, 2), 1);

        DoubtCatcher y = houseA(0, 0, 3, 0, "A_");
        y.bag(98);
        due("the 99th", y.town(1), 99);
        y.bag(99);
        canBe("full", y);
        due("99 at most", y.town(1), 99);
        due("it is gone from there", y.behind(0, 2), 2);
        pad(y, "A_A_A_");
        due("ACTS", y.done(), 3);
        due("99 at most", y.told(2), 99);
        due("none left", y.told(102), 0);
    }

    /** "DOUBTS are half, cut; the SMELL is 3 weeks"; "there are no DOUBTS (!)". */
    private static void arsenic() {
        int[] ahead = {1, 2, 3, 98, 99};
        int[] behind = {0, 1, 1, 49, 49};
        int[] smells = {0, 2, 3, 4, 9};
        for (int i = 0; i < ahead.length; i++) {
            DoubtCatcher x = houseA(ahead[i], 9, 9, smells[i], "A!");
            canBe("arsenic", x);
            due("half of " + ahead[i], x.behind(0, 0), behind[i]);
            due("the SMELL", x.behind(0, 3), 3);
            due("none of it in the SACK", x.town(2), 0);
        }
        judgedSo("no DOUBTS", houseA(0, 9, 9, 9, "A!"), 0, 3);
        judgedSo("none left", houseA(1, 0, 0, 0, "A!A!"), 1, 3);
        judgedSo("of another", houseA(9, 0, 0, 0, "B!"), 0, 3);
    }

    /** "both are one (o)"; "a HOLE is made between them, or stopped, if there is one". */
    private static void bothAreOne() {
        for (int h = 0; h < 8; h++) {
            char letter = LETTERS.charAt(h);
            judgedSo("both " + letter, pad(new DoubtCatcher(), "o" + letter + letter), 0, 4);
            judgedSo("both " + letter, pad(new DoubtCatcher(), ".oAHo" + letter + letter), 2, 4);
        }
        DoubtCatcher x = pad(new DoubtCatcher(), "oHA");
        due("made", x.done(), 1);
        due("from A", x.told(10), 128);
        due("from H", x.told(17), 1);
        pad(x, "oAH");
        due("stopped", x.done(), 1);
        due("from A", x.told(10), 0);
        due("from H", x.told(17), 0);
        pad(x, "oAHoHAoAH");
        due("made, stopped, made", x.done(), 3);
        due("from A", x.told(10), 128);
    }

    /** "An ACT can not be for the least of these reasons"; the first ACT that can not be, be its reason as it may. */
    private static void theLeastReason() {
        DoubtCatcher x = houseA(0, 0, 9, 0, "A^");
        x.bag(0);
        judgedSo("9 CAGES, and the BAG is empty", x, 0, 1);
        pad(x, "B^");
        judgedSo("the BAG is empty", x, 0, 2);
        pad(x, "oAAA-");
        judgedSo("the first ACT, not the least reason", x, 0, 4);
        pad(x, "B!oAAA-");
        judgedSo("the first of three", x, 0, 3);
    }

    /** "it is week 99 (.)". */
    private static void itIsWeek99() {
        DoubtCatcher x = atWeek(new DoubtCatcher(), 98);
        pad(x, ".");
        canBe("the 99th week", x);
        due("week", x.town(3), 99);
        pad(x, "..");
        judgedSo("one too many", x, 1, 5);
        pad(x, ".");
        due("done", x.done(), 1);
        pad(x, ".");
        judgedSo("week 99", x, 0, 5);
        pad(x, "A+A^oAB");
        canBe("but for weeks all can be", x);
        due("done", x.done(), 3);
        due("still week 99", x.told(4), 99);

        DoubtCatcher y = pad(atWeek(new DoubtCatcher(), 39), times(".", 60));
        canBe("60 weeks from 39", y);
        DoubtCatcher z = pad(atWeek(new DoubtCatcher(), 40), times(".", 60));
        judgedSo("60 weeks from 40", z, 59, 5);
    }

    // ---- a week

    /** "grow by as many as it has CRUMBS, but at the most by as many as they are, 99 at most". */
    private static void doubtsGrow() {
        int[][] rows = {{0, 9, 0}, {1, 9, 2}, {8, 9, 16}, {9, 9, 18}, {10, 9, 19}, {1, 1, 2}, {50, 0, 50}, {50, 1, 51},
            {89, 9, 98}, {90, 9, 99}, {91, 9, 99}, {98, 1, 99}, {98, 9, 99}, {99, 0, 99}, {99, 1, 99}, {99, 9, 99}};
        for (int[] row : rows) {
            DoubtCatcher x = houseA(row[0], row[1], 0, 0, ".");
            due(row[0] + " by " + row[1], x.behind(0, 0), row[2]);
            due("CRUMBS stay", x.behind(0, 1), row[1]);
        }
    }

    /** "then each CAGE takes 1 of those, as long as there are any, into the SACK". */
    private static void cagesTake() {
        int[][] rows = {{0, 0, 9, 0}, {1, 0, 9, 1}, {8, 0, 9, 8}, {9, 0, 9, 9}, {10, 0, 9, 9}, {1, 9, 1, 1}, {1, 9, 2, 2},
            {1, 9, 3, 2}, {99, 9, 9, 9}, {95, 9, 9, 9}, {5, 0, 0, 0}, {5, 0, 1, 1}};
        for (int[] row : rows) {
            DoubtCatcher x = houseA(row[0], row[1], row[2], 0, ".");
            int bred = Math.min(99, row[0] + Math.min(row[0], row[1]));
            String call = row[0] + " by " + row[1] + ", " + row[2] + " CAGES";
            due(call, x.judge(2), row[3]);
            due(call + ": the SACK", x.town(2), row[3]);
            due(call + ": left", x.behind(0, 0), bred - row[3]);
            due(call + ": CAGES stay", x.behind(0, 2), row[2]);
        }
    }

    /** "from each HOUSE that has 10 DOUBTS at least or a SMELL, if a HOLE leads from it, one DOUBT, if there is one". */
    private static void tenAtLeastOrASmell() {
        doubtsBehind("9", pad(town("AB", 9, 3), "."), 9, 3);
        doubtsBehind("10", pad(town("AB", 10, 3), "."), 9, 4);
        doubtsBehind("11", pad(town("AB", 11, 3), "."), 10, 4);
        doubtsBehind("no HOLE", pad(town("BC", 99, 3, 0), "."), 99, 3, 0);
        doubtsBehind("to one of more, too", pad(town("AB", 10, 50), "."), 10, 50);
        DoubtCatcher x = town("AB", 0, 3);
        pad(x, ".");
        x.house(0, 9, 1, 0, 0);
        doubtsBehind("10 once it has grown", x, 9, 4);
        x.house(0, 10, 0, 1, 0);
        doubtsBehind("9 once one is caught", x, 9, 3);
        x.house(0, 9, 9, 8, 0);
        doubtsBehind("18 less 8", x, 9, 4);
        x.house(0, 1, 0, 0, 1);
        doubtsBehind("a SMELL of a week", x, 0, 4);
        x.house(0, 9, 0, 0, 9);
        doubtsBehind("a SMELL of 9", x, 8, 4);
        x.house(0, 12, 0, 0, 9);
        doubtsBehind("10 at least and a SMELL: one, too", x, 11, 4);
        x.house(0, 0, 9, 0, 9);
        doubtsBehind("a SMELL, none there", x, 0, 3);
        x.house(0, 2, 0, 2, 9);
        doubtsBehind("a SMELL, all caught", x, 0, 3);
        x.house(0, 1, 0, 0, 0);
        doubtsBehind("no SMELL", x, 1, 3);
        x.hole(0, 1, false);
        x.house(0, 1, 0, 0, 9);
        doubtsBehind("a SMELL, no HOLE", x, 1, 3);
    }

    /** "to that of least DOUBTS (as they were ahead of any going) to which one leads, the least of as few". */
    private static void toThatOfLeast() {
        doubtsBehind("the least of as few", pad(town("ABACAD", 10, 4, 3, 3), "."), 9, 4, 4, 3);
        doubtsBehind("of three as few", pad(town("HCHBHA", 5, 5, 5, 0, 0, 0, 0, 10), "."), 6, 5, 5, 0, 0, 0, 0, 9);
        doubtsBehind("the last", pad(town("ABAH", 10, 1, 0, 0, 0, 0, 0, 0), "."), 9, 1, 0, 0, 0, 0, 0, 1);
        doubtsBehind("only to which one leads", pad(town("ABCD", 10, 7, 0, 0), "."), 9, 8, 0, 0);
        doubtsBehind("ahead of any going", pad(town("ACADBCBD", 10, 10, 4, 5), "."), 9, 9, 6, 5);
        doubtsBehind("as few ahead, not then", pad(town("ACADBCBD", 10, 10, 4, 4), "."), 9, 9, 6, 4);
        DoubtCatcher x = town("ABAC", 10, 5, 0);
        x.house(2, 3, 3, 0, 0);
        x.house(1, 9, 0, 4, 0);
        doubtsBehind("of least once they are grown and caught", pad(x, "."), 9, 6, 6);
        doubtsBehind("99 and 98", pad(town("ABAC", 10, 99, 98), "."), 11, 98, 98);
    }

    /** "all at once, 99 at most". */
    private static void allAtOnce99AtMost() {
        doubtsBehind("9 and one comes: it goes next week", pad(town("ABBC", 10, 9, 0), "."), 9, 10, 0);
        doubtsBehind("and then", pad(town("ABBC", 10, 9, 0), ".."), 9, 9, 1);
        doubtsBehind("past one another", pad(town("AB", 10, 10), "."), 10, 10);
        doubtsBehind("one goes, one comes, of 99", pad(town("AB", 10, 99), "."), 10, 99);
        doubtsBehind("one goes, two come, of 98", pad(town("ACBC", 10, 10, 98), "."), 10, 9, 99);
        doubtsBehind("one goes, two come, of 99", pad(town("ACBC", 10, 10, 99), "."), 10, 9, 99);
        doubtsBehind("one goes, three come, of 98", pad(town("ADBDCD", 10, 10, 10, 98), "."), 10, 9, 9, 99);
        doubtsBehind("one goes, two come, of A's 99", pad(town("ABAC", 99, 10, 10), "."), 99, 10, 9);
        DoubtCatcher x = pad(town("AHBHCHDHEHFHGH", 99, 99, 99, 99, 99, 99, 99, 99), ".");
        doubtsBehind("one goes, seven come, of 99", x, 99, 98, 98, 98, 98, 98, 98, 99);
        due("what is too many is lost", x.town(0), 786);
        due("it is not caught", x.judge(2), 0);
        due("done", x.done(), 1);
        due("told", x.told(170), 99);
    }

    /** "then each SMELL is a week less, 0 at least". */
    private static void smellsWearOff() {
        int[] ahead = {0, 1, 2, 9};
        int[] behind = {0, 0, 1, 8};
        for (int i = 0; i < ahead.length; i++) {
            due("a SMELL of " + ahead[i], houseA(0, 0, 0, ahead[i], ".").behind(0, 3), behind[i]);
        }
        due("9 in 8 weeks", houseA(0, 0, 0, 9, "........").behind(0, 3), 1);
        due("9 in 9 weeks", houseA(0, 0, 0, 9, ".........").behind(0, 3), 0);
        due("9 in 10 weeks", houseA(0, 0, 0, 9, "..........").behind(0, 3), 0);
        doubtsBehind("arsenic drives out for 3 weeks", pad(town("AB", 8, 0), "A!..."), 1, 3);
        doubtsBehind("and no longer", pad(town("AB", 8, 0), "A!...."), 1, 3);
    }

    // ---- JUDGED, BEHIND, TOWN, RID, DONE

    /** "an empty PAD has no FAULT: no ACTS". */
    private static void anEmptyPad() {
        DoubtCatcher x = new DoubtCatcher();
        x.house(2, 99, 9, 8, 7);
        x.bag(50);
        canBe("empty", x);
        due("none caught", x.judge(2), 0);
        int[] of = {99, 9, 8, 7};
        for (int what = 0; what < 4; what++) {
            due("behind", x.behind(2, what), of[what]);
        }
        int[] town = {99, 50, 0, 0, 251};
        for (int what = 0; what < 5; what++) {
            due("town", x.town(what), town[what]);
        }
        due("rid", x.rid(0), NONE);
        due("rid", x.rid(1), NONE);
        due("done", x.done(), 0);
        due("as it was", x.told(120), 99);
        due("week 0", x.told(4), 0);
    }

    /** "the first ACT (from 0 on) that can not be, why; how many DOUBTS came into the SACK in the text". */
    private static void judged() {
        judgedSo("the first", pad(new DoubtCatcher(), "A-A+A+"), 0, 1);
        judgedSo("the last", pad(new DoubtCatcher(), "A+A+B-"), 2, 1);
        judgedSo("the last of 30", pad(new DoubtCatcher(), times("A+A-", 14) + "A+B-"), 29, 1);
        DoubtCatcher x = houseA(9, 0, 2, 0, "..");
        due("4 caught", x.judge(2), 4);
        due("done", x.done(), 2);
        due("none in no text", x.judge(2), 0);
        pad(x, "...");
        due("5 more", x.judge(2), 5);
        due("9 in all", x.town(2), 9);
        due("what -1", x.judge(-1), OUTSIDE);
        due("what 3", x.judge(3), OUTSIDE);
    }

    /** "DOUBTS in all, the BAG, the SACK, the week, HOUSES that are CLEAR (bits; no DOUBTS)". */
    private static void town() {
        DoubtCatcher x = new DoubtCatcher();
        for (int h = 0; h < 8; h++) {
            x.house(h, 99, 9, 0, 0);
        }
        pad(x, ".");
        due("all full", x.town(0), 792);
        due("none CLEAR", x.town(4), 0);
        for (int h = 0; h < 8; h++) {
            x.house(h, 9, 0, 9, 0);
        }
        due("all caught", x.town(0), 0);
        due("all CLEAR", x.town(4), 255);
        due("the SACK", x.town(2), 72);
        due("now, none is", x.told(1), 0);
        x.house(6, 10, 0, 9, 0);
        due("but one", x.town(4), 191);
        due("what -1", x.town(-1), OUTSIDE);
        due("what 5", x.town(5), OUTSIDE);
    }

    private static void ridSo(String call, DoubtCatcher x, int act, int house) {
        due(call + " rid(0)", x.rid(0), act);
        due(call + " rid(1)", x.rid(1), house);
    }

    /** "the first ACT behind which a HOUSE is CLEAR that was not ahead of it; which, the least; NONE". */
    private static void rid() {
        ridSo("CLEAR at first", pad(new DoubtCatcher(), "A+."), NONE, NONE);
        ridSo("never", houseA(5, 0, 0, 0, "..."), NONE, NONE);
        ridSo("in ACT 0", houseA(1, 0, 0, 0, "A!"), 0, 0);
        ridSo("in the last of 60", houseA(60, 0, 1, 0, times(".", 60)), 59, 0);
        ridSo("not in 60", houseA(61, 0, 1, 0, times(".", 60)), NONE, NONE);
        DoubtCatcher x = new DoubtCatcher();
        x.house(7, 1, 0, 1, 0);
        ridSo("H", pad(x, "."), 0, 7);
        x.house(6, 1, 0, 1, 0);
        ridSo("G and H: the least", x, 0, 6);
        x.house(0, 2, 0, 1, 0);
        ridSo("the first ACT, not the least HOUSE", pad(x, ".."), 0, 6);
        DoubtCatcher y = town("AB", 10, 1);
        y.house(1, 1, 0, 1, 0);
        ridSo("caught, and one comes in the same week", pad(y, "."), NONE, NONE);
        y = town("AB", 10);
        y.house(1, 0, 0, 1, 0);
        ridSo("CLEAR at first, not in between", pad(y, ".."), 1, 1);
        due("what -1", y.rid(-1), OUTSIDE);
        due("what 2", y.rid(2), OUTSIDE);
        pad(y, "..A-");
        due("STATE, though one was rid", y.rid(0), STATE);
        pad(y, "..A");
        due("NO, though one was rid", y.rid(0), NO);
        DoubtCatcher z = town("AB", 1, 0);
        z.house(0, 1, 0, 0, 9);
        ridSo("one goes: A is, B no more", pad(z, "."), 0, 0);
        pad(z, ".");
        due("done", z.done(), 1);
        ridSo("CLEAR already", pad(z, "A+"), NONE, NONE);
    }

    /** "WEEKS are DONE (the PAD is empty then): ACTS". */
    private static void done() {
        DoubtCatcher x = houseA(3, 0, 0, 0, "A!");
        due("one", x.done(), 1);
        due("the PAD is empty", x.told(0), 0);
        due("nothing twice", x.done(), 0);
        due("DOUBTS", x.told(100), 1);
        pad(x, "A!A!");
        due("STATE", x.done(), STATE);
        due("the PAD stays", x.told(0), 4);
        due("not the first ACT either", x.told(100), 1);
        pad(x, "A!A");
        due("NO", x.done(), NO);
        due("the PAD stays", x.told(0), 3);
        due("not the first ACT either", x.told(100), 1);
    }

    // ---- ALONE, TERRIERS, HEARD

    /** "d DOUBTS (0 to 99), c CRUMBS (0 to 9), k CAGES (0 to 9) .. (0: it is); NONE; .. it has 99 first; NONE". */
    private static void alone() {
        DoubtCatcher x = new DoubtCatcher();
        int[][] rows = {{0, 0, 0, 0, NONE}, {0, 9, 9, 0, NONE}, {1, 0, 0, NONE, NONE}, {1, 0, 1, 1, NONE}, {1, 9, 1, NONE, NONE},
            {1, 9, 2, 1, NONE}, {9, 0, 9, 1, NONE}, {10, 0, 9, 2, NONE}, {9, 9, 9, NONE, NONE}, {99, 0, 0, NONE, 0},
            {99, 9, 9, NONE, 0}, {99, 0, 1, 99, 0}, {98, 0, 0, NONE, NONE}, {98, 1, 0, NONE, 1}, {98, 9, 0, NONE, 1},
            {98, 9, 1, NONE, NONE}, {90, 9, 0, NONE, 1}, {89, 9, 0, NONE, 2}, {1, 1, 0, NONE, 98}, {8, 9, 8, NONE, NONE},
            {7, 9, 8, 3, NONE}, {99, 0, 9, 11, 0}};
        for (int[] row : rows) {
            String call = "alone " + row[0] + " " + row[1] + " " + row[2];
            due(call, x.alone(row[0], row[1], row[2], 0), row[3]);
            due(call + ", 99", x.alone(row[0], row[1], row[2], 1), row[4]);
        }
        int[][] beyond = {{-1, 0, 0, 0}, {100, 0, 0, 0}, {0, -1, 0, 0}, {0, 10, 0, 0}, {0, 0, -1, 0}, {0, 0, 10, 0},
            {0, 0, 0, -1}, {0, 0, 0, 2}};
        for (int[] out : beyond) {
            due("alone beyond", x.alone(out[0], out[1], out[2], out[3]), OUTSIDE);
        }
    }

    /** "the fewest HOUSES so that each HOLE has one of them at an end: how many; which, least as bits of as few". */
    private static void terriers() {
        DoubtCatcher x = new DoubtCatcher();
        due("no HOLES", x.terriers(0), 0);
        due("no HOLES", x.terriers(1), 0);
        for (int one = 0; one < 8; one++) {
            for (int other = one + 1; other < 8; other++) {
                x.hole(one, other, true);
                due("one HOLE", x.terriers(0), 1);
                due("one HOLE", x.terriers(1), 1 << one);
                x.hole(one, other, false);
            }
        }
        DoubtCatcher y = town("ABBCCDDEEFFGGH");
        due("in a row", y.terriers(0), 4);
        due("in a row: A, C, E, G", y.terriers(1), 1 + 4 + 16 + 64);
        pad(y, "oAH");
        due("as HOLES are now", y.terriers(0), 4);
        DoubtCatcher z = town("HAHBHCHDHEHFHG");
        due("all to H", z.terriers(0), 1);
        due("all to H", z.terriers(1), 128);
        DoubtCatcher all = new DoubtCatcher();
        for (int one = 0; one < 8; one++) {
            for (int other = one + 1; other < 8; other++) {
                all.hole(one, other, true);
            }
        }
        due("all", all.terriers(0), 7);
        due("all", all.terriers(1), 127);
        due("what -1", all.terriers(-1), OUTSIDE);
        due("what 2", all.terriers(2), OUTSIDE);
    }

    /** "of two rows of n digits each (1 to 9; noughts ahead) .. how long; which, the least number of as long (0: none, too)". */
    private static void heard() {
        DoubtCatcher x = new DoubtCatcher();
        int[][] rows = {{1, 2, 1, 0, 0}, {0, 0, 1, 1, 0}, {9, 9, 1, 1, 9}, {12, 34, 2, 0, 0}, {12, 21, 2, 1, 1},
            {1, 10, 2, 1, 0}, {5, 5, 9, 9, 5}, {5, 50, 9, 8, 0}, {10, 20, 2, 1, 0}, {1, 100, 3, 2, 0}, {987654321, 123456789, 9, 1, 1},
            {111111111, 222222222, 9, 0, 0}, {123456789, 123456789, 9, 9, 123456789}, {3412, 1234, 4, 2, 12}};
        for (int[] row : rows) {
            String call = "heard " + row[0] + " " + row[1] + " of " + row[2];
            due(call, x.heard(row[0], row[1], row[2], 0), row[3]);
            due(call + ", which", x.heard(row[0], row[1], row[2], 1), row[4]);
            due(call + ", turned", x.heard(row[1], row[0], row[2], 0), row[3]);
            due(call + ", turned, which", x.heard(row[1], row[0], row[2], 1), row[4]);
        }
        due("n 0", x.heard(0, 0, 0, 0), OUTSIDE);
        due("n 10", x.heard(0, 0, 10, 0), OUTSIDE);
        due("what -1", x.heard(0, 0, 1, -1), OUTSIDE);
        due("what 2", x.heard(0, 0, 1, 2), OUTSIDE);
    }

    /** "OUTSIDE: n, a row of more digits". */
    private static void heardOfEachLength() {
        DoubtCatcher x = new DoubtCatcher();
        int nines = 9;
        for (int n = 1; n <= 9; n++) {
            due("nines", x.heard(nines, nines, n, 0), n);
            due("nines", x.heard(nines, nines, n, 1), nines);
            due("noughts", x.heard(0, 0, n, 0), n);
            due("nines and noughts", x.heard(nines, 0, n, 0), 0);
            due("one of more", x.heard(nines + 1, 0, n, 0), OUTSIDE);
            due("other of more", x.heard(0, nines + 1, n, 0), OUTSIDE);
            due("one below", x.heard(-1, 0, n, 0), OUTSIDE);
            due("other below", x.heard(0, -1, n, 0), OUTSIDE);
            nines = n < 9 ? 10 * nines + 9 : nines;
        }
    }

    // ---- BRED, CHASE, EVER, a YEAR

    /** "SIGHTS, 8 at most"; "A SIGHT more: how many. OUTSIDE; FULL"; "SIGHTS go: how many there were". */
    private static void sightsAre8AtMost() {
        DoubtCatcher x = new DoubtCatcher();
        due("none", x.forget(), 0);
        for (int round = 0; round < 2; round++) {
            for (int n = 1; n <= 8; n++) {
                due("SIGHT " + n, x.gnawed(n, 3), n);
                due("told", x.told(5), n);
            }
            due("FULL", x.gnawed(0, 4), FULL);
            due("OUTSIDE ahead of FULL", x.gnawed(41, 3), OUTSIDE);
            due("OUTSIDE ahead of FULL", x.gnawed(0, 100), OUTSIDE);
            due("still 8", x.told(5), 8);
            due("one fits", x.fits(-1), 1);
            due("one fits", x.fits(0), 30);
            due("forget", x.forget(), 8);
            due("none", x.told(5), 0);
            due("all fit", x.fits(-1), 90);
            due("forget", x.forget(), 0);
        }
    }

    /** "behind i weeks (0 to 40) there were v (0 to 99)". */
    private static void sightsOfEachWeek() {
        int[][] rows = {{0, 0, 0}, {0, 1, 10}, {0, 9, 10}, {0, 10, 0}, {0, 99, 0}, {40, 0, 0}, {40, 99, 63}, {40, 98, 0},
            {40, 1, 1}, {40, 9, 1}, {40, 41, 1}, {40, 49, 1}, {39, 40, 1}, {1, 18, 1}, {1, 19, 0}};
        for (int[] row : rows) {
            DoubtCatcher x = new DoubtCatcher();
            String call = row[1] + " behind " + row[0];
            due(call, x.gnawed(row[0], row[1]), 1);
            due(call + ": how many fit", x.fits(-1), row[2]);
            due(call + ": the first", x.fits(0) == NONE ? 0 : 1, row[2] == 0 ? 0 : 1);
            due(call + ": the last", x.fits(row[2] - 1) == NONE ? 0 : 1, 1);
            due(call + ": no more", x.fits(row[2]), NONE);
        }
        DoubtCatcher y = new DoubtCatcher();
        due("weeks -1", y.gnawed(-1, 0), OUTSIDE);
        due("weeks 41", y.gnawed(41, 0), OUTSIDE);
        due("v -1", y.gnawed(0, -1), OUTSIDE);
        due("v 100", y.gnawed(0, 100), OUTSIDE);
        due("none", y.told(5), 0);
        y.gnawed(3, 40);
        y.gnawed(3, 41);
        due("two of a week that are at odds", y.fits(-1), 0);
    }

    /** "how many (i = -1), the i-th; NONE (i below -1, too)"; a 1 to 9, c 0 to 9, rising. */
    private static void fits() {
        DoubtCatcher x = new DoubtCatcher();
        due("all", x.fits(-1), 90);
        due("the first", x.fits(0), 10);
        due("the last", x.fits(89), 99);
        due("one too far", x.fits(90), NONE);
        due("far", x.fits(Integer.MAX_VALUE), NONE);
        due("-2", x.fits(-2), NONE);
        due("far", x.fits(Integer.MIN_VALUE), NONE);
        x.gnawed(0, 9);
        due("of 9", x.fits(0), 90);
        due("of 9", x.fits(9), 99);
        due("of 9", x.fits(10), NONE);
        x.gnawed(1, 18);
        due("9 CRUMBS", x.fits(-1), 1);
        due("9 CRUMBS", x.fits(0), 99);
        due("9 CRUMBS", x.fits(1), NONE);
        x.gnawed(2, 18);
        due("nothing", x.fits(-1), 0);
        due("nothing", x.fits(0), NONE);
        due("nothing", x.fits(-2), NONE);
        DoubtCatcher y = new DoubtCatcher();
        y.gnawed(1, 2);
        int[] want = {11, 12, 13, 14, 15, 16, 17, 18, 19, 20};
        for (int i = 0; i < want.length; i++) {
            due("2 behind a week, " + i, y.fits(i), want[i]);
        }
        due("2 behind a week", y.fits(-1), want.length);
    }

    private static void asked(String call, DoubtCatcher x, int week, int left) {
        due(call + " ask(0)", x.ask(0), week);
        due(call + " ask(1)", x.ask(1), left);
    }

    /** "the week (what = 0, 0 to 40), how many (1); NONE: nothing fits. OUTSIDE". */
    private static void ask() {
        DoubtCatcher x = new DoubtCatcher();
        asked("all fit", x, 5, 3);
        x.gnawed(0, 9);
        asked("week 0 tells no more", x, 1, 1);
        x.gnawed(1, 18);
        asked("one fits: the least week", x, 0, 1);
        x.gnawed(40, 98);
        asked("nothing fits", x, NONE, NONE);
        due("what -1", x.ask(-1), OUTSIDE);
        due("what 2", x.ask(2), OUTSIDE);
        x.forget();
        x.gnawed(12, 99);
        due("11 fit", x.fits(-1), 11);
        asked("a late week", x, 9, 1);
        x.forget();
        x.gnawed(40, 45);
        asked("45 behind 40: 5 and a CRUMB alone", x, 0, 1);
        x.forget();
        x.gnawed(0, 5);
        x.gnawed(1, 5);
        asked("no CRUMBS alone", x, 0, 1);
        x.forget();
        x.gnawed(0, 5);
        x.gnawed(1, 4);
        due("they never are fewer", x.fits(-1), 0);
        asked("they never are fewer", x, NONE, NONE);
        x.forget();
        x.gnawed(0, 1);
        x.gnawed(4, 16);
        due("8 or 9 CRUMBS", x.fits(-1), 2);
        asked("8 or 9 CRUMBS: alike for 4 weeks", x, 5, 1);
    }

    private static void chased(String call, DoubtCatcher x, int catcher, int rat, int goings, int first) {
        due(call + " chase(" + catcher + ", " + rat + ", 0)", x.chase(catcher, rat, 0), goings);
        due(call + " chase(" + catcher + ", " + rat + ", 1)", x.chase(catcher, rat, 1), first);
    }

    /** "(0: it is there; NONE: never)"; "the least (NONE: 0, or never)". */
    private static void chase() {
        DoubtCatcher x = new DoubtCatcher();
        for (int h = 0; h < 8; h++) {
            chased("it is there", x, h, h, 0, NONE);
            chased("no HOLES", x, h, 7 - h, NONE, NONE);
        }
        DoubtCatcher row = town("ABBCCDDEEFFGGH");
        chased("beside", row, 0, 1, 1, 1);
        chased("two off", row, 0, 2, 7, 1);
        chased("in the row", row, 0, 7, 7, 1);
        chased("in the row", row, 7, 0, 7, 6);
        chased("from amid", row, 3, 7, 4, 4);
        chased("from amid", row, 3, 5, 4, 4);
        pad(row, "oAH");
        chased("as HOLES are now", row, 0, 7, 7, 1);
        chased("three round", town("ABBCCA"), 2, 0, 1, 0);
        chased("four round", town("ABBCCDDA"), 0, 2, NONE, NONE);
        chased("four round, beside", town("ABBCCDDA"), 0, 3, 1, 3);
        chased("two ways of as few: the least", town("ABACBDCDBC"), 3, 0, 2, 1);
        chased("by A", town("BAACCD"), 1, 3, 3, 0);
        chased("shut up apart", town("ABCD"), 0, 2, NONE, NONE);
        chased("all to H", town("HAHBHCHDHEHFHG"), 0, 6, 2, 7);
        due("what -1", row.chase(0, 1, -1), OUTSIDE);
        due("what 2", row.chase(0, 1, 2), OUTSIDE);
        due("UNKNOWN ahead of OUTSIDE", row.chase(8, 1, 2), UNKNOWN);
        due("UNKNOWN ahead of OUTSIDE", row.chase(1, -1, 2), UNKNOWN);
    }

    /** "k DOUBTS (0 to n) in a HOUSE that is given up at n (1 to 16)"; "t tenths (1 to 9)"; "GONE and the refusal". */
    private static void everAtItsBounds() {
        for (int t = 1; t <= 9; t++) {
            DoubtCatcher x = new DoubtCatcher();
            for (int n = 1; n <= 16; n++) {
                String call = "ever n " + n + " t " + t;
                due(call + " k 0", x.ever(n, 0, t, 0), 1);
                due(call + " k 0, lower", x.ever(n, 0, t, 1), 1);
                due(call + " k n", x.ever(n, n, t, 0), 0);
                due(call + " k n, lower", x.ever(n, n, t, 1), 1);
                due(call + " k -1", x.ever(n, -1, t, 0), DoubtCatcher.GONE + OUTSIDE);
                due(call + " k n and 1", x.ever(n, n + 1, t, 0), DoubtCatcher.GONE + OUTSIDE);
            }
            due("n 0", x.ever(0, 0, t, 0), DoubtCatcher.GONE + OUTSIDE);
            due("n 17", x.ever(17, 0, t, 0), DoubtCatcher.GONE + OUTSIDE);
            due("part -1", x.ever(1, 0, t, -1), DoubtCatcher.GONE + OUTSIDE);
            due("part 2", x.ever(1, 0, t, 2), DoubtCatcher.GONE + OUTSIDE);
        }
        DoubtCatcher y = new DoubtCatcher();
        due("t 0", y.ever(1, 0, 0, 0), DoubtCatcher.GONE + OUTSIDE);
        due("t 10", y.ever(1, 0, 10, 0), DoubtCatcher.GONE + OUTSIDE);
        due("GONE and the refusal", y.ever(1, 0, 10, 1), -1000000000000000002L);
    }

    /** "told in lowest terms by part". */
    private static void everInBetween() {
        DoubtCatcher x = new DoubtCatcher();
        // Of n 2, k 1 it is the one night that tells; the tenths in lowest terms.
        int[] lower = {10, 5, 10, 5, 2, 5, 10, 5, 10};
        int[] upper = {9, 4, 7, 3, 1, 2, 3, 1, 1};
        for (int t = 1; t <= 9; t++) {
            due("one night, t " + t, x.ever(2, 1, t, 0), upper[t - 1]);
            due("one night, t " + t, x.ever(2, 1, t, 1), lower[t - 1]);
        }
        due("of 16 as likely", x.ever(16, 12, 5, 0), 1);
        due("of 16 as likely", x.ever(16, 12, 5, 1), 4);
        due("of 16 as likely", x.ever(16, 15, 5, 1), 16);
        // 8 ways of 1853020188851840, 9 to the 16th less 1, are shared.
        due("the largest", x.ever(16, 1, 1, 1), 231627523606480L);
        due("the largest", x.ever(16, 1, 1, 0), 231627523606479L);
    }

    /** The first m ACTS of a seed as a text; x where there is none. */
    private static String drawn(int seed, int m) {
        StringBuilder text = new StringBuilder();
        int x = seed;
        for (int i = 0; i < m; i++) {
            x = (75 * x + 74) % 65537;
            char house = LETTERS.charAt(x % 8);
            int kind = x / 8 % 8;
            int z = x / 64;
            if (kind > 5) {
                text.append('.');
            } else if (kind == 5) {
                text.append('o').append(house).append(LETTERS.charAt(z % 8));
            } else if (kind < 4 || z % 4 == 0) {
                text.append(house).append("+-^_!".charAt(kind));
            } else {
                text.append('x');
            }
        }
        return text.toString();
    }

    /** The least seed of such a text, and the HOUSE that stands at each ? of it: 10 times the seed and the HOUSE. */
    private static int seedOf(String text, int m) {
        for (int seed = 0; seed <= 9999; seed++) {
            String got = drawn(seed, m);
            for (int h = 0; h < 8; h++) {
                if (got.equals(text.replace('?', LETTERS.charAt(h)))) {
                    return 10 * seed + h;
                }
            }
        }
        due("a seed of " + text, 0, 1);
        return 0;
    }

    /** "a seed (0 to 9999) of m ACTS (1 to 99)"; "left over by 65537". */
    private static void yearsBounds() {
        DoubtCatcher x = new DoubtCatcher();
        for (int h = 0; h < 8; h++) {
            x.house(h, 10 + h, 5, 2, 0);
        }
        // 9999 becomes 749999 less 11 times 65537, 29092: arsenic in E, but z is 454; that 19253: a week.
        due("9999, one ACT", x.year(9999, 1, 0), 108);
        due("9999, two ACTS", x.year(9999, 2, 0), 108 + 8 * 3);
        due("9999, the SACK", x.year(9999, 2, 1), 16);
        due("9999, CLEAR", x.year(9999, 2, 2), 0);
        // 0 becomes 74: a CRUMB less in C; that 5624: a week.
        due("0, one ACT", x.year(0, 1, 0), 108);
        due("0, two ACTS", x.year(0, 2, 0), 108 + 8 * 3 - 1);
        DoubtCatcher y = new DoubtCatcher();
        due("99 ACTS of no DOUBTS", y.year(0, 99, 0), 0);
        due("99 ACTS of no DOUBTS", y.year(9999, 99, 1), 0);
        due("99 ACTS of no DOUBTS", y.year(9999, 99, 2), 8);
        due("seed -1", y.year(-1, 1, 0), OUTSIDE);
        due("seed 10000", y.year(10000, 1, 0), OUTSIDE);
        due("m 0", y.year(0, 0, 0), OUTSIDE);
        due("m 100", y.year(0, 100, 0), OUTSIDE);
        due("what -1", y.year(0, 1, -1), OUTSIDE);
        due("what 3", y.year(0, 1, 3), OUTSIDE);
    }

    /** A YEAR of one ACT and a week, of a HOUSE with these: DOUBTS or the SACK. */
    private static void year(String acts, int[] of, int bag, int what, int want) {
        int found = seedOf("?" + acts, acts.length());
        DoubtCatcher x = new DoubtCatcher();
        x.house(found % 10, of[0], of[1], of[2], of[3]);
        x.bag(bag);
        due("a year of ?" + acts, x.year(found / 10, acts.length(), what), want);
    }

    /** "each if that can be". */
    private static void yearsActs() {
        year("+.", new int[] {50, 8, 0, 0}, 9, 0, 59);
        year("+.", new int[] {50, 9, 0, 0}, 9, 0, 59);
        year("-.", new int[] {50, 1, 0, 0}, 9, 0, 50);
        year("-.", new int[] {50, 0, 0, 0}, 9, 0, 50);
        year("^.", new int[] {50, 0, 8, 0}, 1, 1, 9);
        year("^.", new int[] {50, 0, 9, 0}, 1, 1, 9);
        year("^.", new int[] {50, 0, 8, 0}, 0, 1, 8);
        year("_.", new int[] {50, 0, 1, 0}, 9, 1, 0);
        year("_.", new int[] {50, 0, 0, 0}, 9, 1, 0);
        year("_.", new int[] {50, 0, 2, 0}, 99, 1, 1);
        year("!", new int[] {1, 0, 0, 0}, 9, 2, 8);
        year("!", new int[] {99, 0, 0, 0}, 9, 0, 49);
        year("!", new int[] {0, 0, 0, 0}, 9, 2, 8);

        // Where there are no DOUBTS there is no SMELL either: the one that comes stays.
        int found = seedOf("?!..", 3);
        int other = found % 10 == 0 ? 1 : 0;
        DoubtCatcher x = new DoubtCatcher();
        x.hole(found % 10, other, true);
        x.house(other, 10, 0, 0, 0);
        due("no arsenic in an empty HOUSE", x.year(found / 10, 3, 2), 6);

        found = seedOf("o??.", 2);
        other = found % 10 == 0 ? 1 : 0;
        DoubtCatcher y = new DoubtCatcher();
        y.hole(found % 10, other, true);
        y.house(found % 10, 1, 0, 0, 1);
        y.house(other, 5, 0, 0, 0);
        due("no HOLE of both one", y.year(found / 10, 2, 2), 7);

        int seed = seedOf("oCA.", 2) / 10;
        DoubtCatcher z = new DoubtCatcher();
        z.house(0, 10, 0, 0, 0);
        due("a HOLE is made", z.year(seed, 2, 2), 6);
        z.hole(0, 2, true);
        due("or stopped", z.year(seed, 2, 2), 7);
        due("in fact it is there", z.told(10), 4);
    }

    /** Week 99 in a YEAR; "Nothing is DONE in fact". */
    private static void yearsWeeks() {
        int found = seedOf("...", 3) / 10;
        for (int week = 95; week <= 99; week++) {
            DoubtCatcher x = atWeek(new DoubtCatcher(), week);
            x.house(4, 50, 0, 1, 0);
            int left = Math.min(3, 99 - week);
            due("a year from week " + week, x.year(found, 3, 1), left);
            due("a year from week " + week, x.year(found, 3, 0), 50 - left);
            due("the week stays", x.told(4), week);
            due("DOUBTS stay", x.told(140), 50);
            due("the SACK stays", x.told(3), 0);
        }
    }

    // ---- IMAGES, told

    /** "in an IMAGE (0, 1): 1. OUTSIDE"; "It is as it was when it was kept: 1. OUTSIDE; STATE: it was not". */
    private static void images() {
        DoubtCatcher x = new DoubtCatcher();
        due("0 was not kept", x.restore(0), STATE);
        due("1 was not kept", x.restore(1), STATE);
        due("image 1", x.image(1), 1);
        due("0 still was not", x.restore(0), STATE);
        x.bag(20);
        due("image 0", x.image(0), 1);
        x.bag(30);
        pad(x, "A+~");
        due("restore 1", x.restore(1), 1);
        due("of 1", x.told(2), 9);
        due("the PAD stays", x.told(0), 3);
        due("its FAULT too", x.fault(), 2);
        due("restore 0", x.restore(0), 1);
        due("of 0", x.told(2), 20);
        x.bag(40);
        due("as often as one likes", x.restore(0), 1);
        due("of 0", x.told(2), 20);
        x.bag(50);
        due("kept again", x.image(0), 1);
        due("restore 1", x.restore(1), 1);
        due("of 1", x.told(2), 9);
        due("restore 0", x.restore(0), 1);
        due("the newer", x.told(2), 50);
        due("image -1", x.image(-1), OUTSIDE);
        due("image 2", x.image(2), OUTSIDE);
        due("restore -1", x.restore(-1), OUTSIDE);
        due("restore 2", x.restore(2), OUTSIDE);
    }

    /** "All but the PAD is kept". */
    private static void imagesOfWhatIsFull() {
        DoubtCatcher x = new DoubtCatcher();
        due("of a new one", x.image(0), 1);
        x.house(0, 99, 9, 9, 9);
        x.hole(0, 7, true);
        x.bag(99);
        atWeek(x, 99);
        x.house(0, 99, 9, 9, 9);
        for (int n = 1; n <= 7; n++) {
            x.gnawed(0, 6);
        }
        due("the 8th", x.gnawed(40, 46), 8);
        int sack = x.told(3);
        pad(x, times(".", 60));
        due("of all that is full", x.image(1), 1);
        due("of a new one", x.restore(0), 1);
        int[] first = {60, 255, 9, 0, 0, 0};
        for (int what = 0; what < 6; what++) {
            due("of a new one, told " + what, x.told(what), first[what]);
        }
        due("no HOLE", x.told(17), 0);
        due("all fit", x.fits(-1), 90);
        due("a SIGHT", x.gnawed(0, 1), 1);
        due("it goes", x.forget(), 1);
        canBe("60 weeks", x);
        due("of all that is full", x.restore(1), 1);
        int[] full = {99, 9, 9, 9};
        for (int what = 0; what < 4; what++) {
            due("of all that is full, A", x.told(100 + what), full[what]);
        }
        due("HOLE", x.told(17), 1);
        due("the BAG", x.told(2), 99);
        due("the SACK", x.told(3), sack);
        due("there was some", sack > 0 ? 1 : 0, 1);
        due("the week", x.told(4), 99);
        due("SIGHTS", x.told(5), 8);
        due("FULL", x.gnawed(0, 6), FULL);
        due("one fits, by the 8th too", x.fits(-1), 1);
        due("one fits, by the 8th too", x.fits(0), 61);
        due("FULL", x.say('.'), FULL);
        judgedSo("week 99", x, 0, 5);
    }

    /** "0 .. 5; 10 and a HOUSE; 100 and 10 times a HOUSE and 0 .. 3. OUTSIDE". */
    private static void told() {
        for (int from = -300; from <= 600; from += 450) {
            DoubtCatcher x = new DoubtCatcher();
            for (int what = from; what < from + 450; what++) {
                boolean is = what >= 0 && what <= 5 || what >= 10 && what <= 17
                    || what >= 100 && what <= 179 && what % 10 <= 3;
                due("told " + what + " is OUTSIDE", x.told(what) == OUTSIDE ? 1 : 0, is ? 0 : 1);
            }
        }
        DoubtCatcher y = new DoubtCatcher();
        due("far", y.told(Integer.MAX_VALUE), OUTSIDE);
        due("far", y.told(Integer.MIN_VALUE), OUTSIDE);
        for (int h = 0; h < 8; h++) {
            y.house(h, 90 + h, h, 9 - h, h + 1);
            y.hole(h, (h + 1) % 8, true);
        }
        for (int h = 0; h < 8; h++) {
            due("HOLES of " + h, y.told(10 + h), (1 << (h + 1) % 8) + (1 << (h + 7) % 8));
            due("DOUBTS of " + h, y.told(100 + 10 * h), 90 + h);
            due("CRUMBS of " + h, y.told(101 + 10 * h), h);
            due("CAGES of " + h, y.told(102 + 10 * h), 9 - h);
            due("SMELL of " + h, y.told(103 + 10 * h), h + 1);
        }
        due("none is CLEAR", y.told(1), 0);
        pad(y, ".A+");
        due("signs", y.told(0), 3);
        due("the PAD is not done", y.told(100), 90);
        due("nor its weeks", y.told(4), 0);
    }

    /** "An object is used for at most 512 calls after it has been made". */
    private static void the512thCall() {
        DoubtCatcher x = new DoubtCatcher();
        for (int call = 1; call <= 511; call++) {
            due("call " + call, x.bag(call % 100), call == 1 ? 9 : (call - 1) % 100);
        }
        due("call 512", x.bag(0), 11);
    }
}
