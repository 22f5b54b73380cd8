/** The boundary cases of "The sea and the pond", "A step" (but for pledges), and promises 21 to 26. */
final class WaterSentences {
    private static final String SEA = "The sea and the pond";
    private static final String STEP = "A step";
    private static final int MIN = Integer.MIN_VALUE;
    private static final int MAX = Integer.MAX_VALUE;

    private WaterSentences() {
    }

    static void all() {
        ranges();
        phases();
        level();
        head();
        sluicesAndGates();
        oneStep();
        inflow();
        leaks();
        leaksOfAllThereIs();
        gateOpenAndHead();
        waterOfTheGate();
        sackOnTheStones();
        poundsOfAStep();
        sackWithoutGrain();
        pass();
        seaIn();
        nextHigh();
        pond();
        foresee();
        foreseeLimit();
        bestGate();
    }

    private static void ranges() {
        Check.sentence(SEA, "At a time the tide has the number k = time / period, and the phase f = time mod period; h = "
            + "period / 2; its range is r = rise + spring * (the size of (k mod 14) - 7) / 7.");
        SeaMill mill = new SeaMill();
        int[] highs = {140, 137, 134, 131, 128, 125, 122, 120, 122, 125, 128, 131, 134, 137, 140, 137};
        for (int k = 0; k < highs.length; k++) {
            Check.due("the high of tide " + k, highs[k], mill.seaIn(50 * k + 25));
            Check.due("tide " + k + " begins", 20, mill.seaIn(50 * k));
            Check.due("the first step of tide " + k, 20 + (highs[k] - 20) / 25, mill.seaIn(50 * k + 1));
            Check.due("the last step of tide " + k, 20 + (highs[k] - 20) / 25, mill.seaIn(50 * k + 49));
        }
        Check.due("the high of tide 98, a spring tide", 140, mill.seaIn(50 * 98 + 25));
        mill.set(3, 100);
        mill.set(2, 0);
        Check.due("a rise of 0: spring", 120, mill.seaIn(25));
        Check.due("a rise of 0: tide 6", 34, mill.seaIn(325));
        Check.due("a rise of 0: neap", 20, mill.seaIn(375));
        Check.due("a rise of 0: tide 8", 34, mill.seaIn(425));
        mill.set(3, 0);
        Check.due("no rise and no spring", 20, mill.seaIn(25));
        mill.set(2, 300);
        mill.set(3, 100);
        mill.set(1, 100);
        Check.due("the greatest of all", 500, mill.seaIn(25));
    }

    private static void phases() {
        Check.sentence(SEA, "The sea stands at low water + r * f / h, if f is at most h, otherwise at low water + r * "
            + "(period - f) / (period - h).");
        levelsOfPeriod(4, new int[] {0, 1, 2, 3, 4, 5, 6, 7, 8}, 0, 50, 100, 50, 0, 50, 100, 50, 0);
        levelsOfPeriod(5, new int[] {0, 1, 2, 3, 4, 5, 6, 7, 8}, 0, 50, 100, 66, 33, 0, 50, 100, 66);
        levelsOfPeriod(7, new int[] {2, 3, 4, 5, 6, 7}, 66, 100, 75, 50, 25, 0);
        levelsOfPeriod(99, new int[] {0, 1, 48, 49, 50, 97, 98, 99}, 0, 2, 97, 100, 98, 4, 2, 0);
        levelsOfPeriod(100, new int[] {0, 1, 49, 50, 51, 99, 100, 101}, 0, 2, 98, 100, 98, 2, 0, 2);
    }

    private static void levelsOfPeriod(int period, int[] times, int... levels) {
        SeaMill mill = new SeaMill();
        mill.set(1, 0);
        mill.set(3, 0);
        mill.set(4, period);
        for (int i = 0; i < times.length; i++) {
            Check.due("period " + period + ": seaIn(" + times[i] + ")", levels[i], mill.seaIn(times[i]));
            if (times[i] > 0) {
                mill.pass(times[i]);
                Check.due("period " + period + ": the sea at " + times[i], levels[i], mill.pond(2));
                mill.undo();
            }
        }
    }

    private static void level() {
        Check.sentence(SEA, "The pond has a volume (0 at first); its level is volume / area.");
        SeaMill mill = new SeaMill();
        Check.due("the volume at first", 0, mill.pond(0));
        Check.due("the level at first", 0, mill.pond(1));
        mill = Check.flatMill(99);
        int[] areas = {10, 11, 494, 495, 496, 989, 990, 991, 1000};
        int[] levels = {99, 90, 2, 2, 1, 1, 1, 0, 0};
        for (int i = 0; i < areas.length; i++) {
            mill.set(0, areas[i]);
            Check.due("990 / " + areas[i], levels[i], mill.pond(1));
        }
        Check.due("the volume is kept", 990, mill.pond(0));
    }

    private static void head() {
        Check.sentence(SEA, "The head is its level minus the level of the sea (it may be below 0).");
        SeaMill mill = Check.flatMill(50);
        int[] seas = {0, 49, 50, 51, 100};
        for (int sea : seas) {
            mill.set(1, sea);
            Check.due("the head over a sea of " + sea, 50 - sea, mill.pond(3));
        }
    }

    private static void sluicesAndGates() {
        Check.sentence(SEA, "The pond has 4 sluices, 0 to 3, with leaks (0 to 20 each; 2, 1, 3, 0 at first), a sea gate, "
            + "which is locked or not (not, at first), and a mill gate with an opening (0 to 3; 0 at first).");
        SeaMill mill = new SeaMill();
        int[] leaks = {2, 1, 3, 0};
        for (int sluice = 0; sluice <= 3; sluice++) {
            Check.due("leak of sluice " + sluice, leaks[sluice], mill.pond(11 + sluice));
        }
        Check.due("leak(4, 0)", Check.INVALID, mill.leak(4, 0));
        Check.due("leak(3, 21)", Check.INVALID, mill.leak(3, 21));
        Check.due("not locked", 0, mill.pond(5));
        Check.due("closed", 0, mill.pond(4));
        Check.due("gate(4)", Check.INVALID, mill.gate(4));
        Check.due("gate(3)", 0, mill.gate(3));
    }

    private static void oneStep() {
        Check.sentence(STEP, "In a step, time becomes greater by 1.");
        SeaMill mill = new SeaMill();
        for (int time = 1; time <= 3; time++) {
            mill.pass(1);
            Check.due("the time", time, mill.count(7));
        }
        Check.sentence(STEP, "Then, with the sea at this time");
        mill = new SeaMill();
        mill.pass(1);
        Check.due("the sea of 24 of time 1 flows in, not the one of 20 of time 0", 60 * 24, mill.pond(7));
    }

    /** How much flows in a step into a pond of level 50 and area 10. */
    private static int flowsIn(int sea, int flow, int locked) {
        SeaMill mill = Check.flatMill(50);
        mill.leak(0, 3);
        mill.set(1, sea);
        mill.set(5, flow);
        mill.lock(locked);
        int before = mill.pond(7);
        mill.pass(1);
        Check.due("the volume", 500 + mill.pond(7) - before - mill.pond(8), mill.pond(0));
        return mill.pond(7) - before;
    }

    private static void inflow() {
        Check.sentence(STEP, "1 if the sea gate is not locked, and the head is below 0, with d the size of the head, the "
            + "smaller one of flow * d and area * d flows into the pond");
        Check.due("a head of 1", 0, flowsIn(49, 60, 0));
        Check.due("a head of 0", 0, flowsIn(50, 60, 0));
        Check.due("a head of -1", 10, flowsIn(51, 60, 0));
        Check.due("a head of -1, locked", 0, flowsIn(51, 60, 1));
        Check.due("a head of -50", 500, flowsIn(100, 60, 0));
        Check.due("a head of -50, locked", 0, flowsIn(100, 60, 1));
        Check.due("a flow of 0", 0, flowsIn(52, 0, 0));
        Check.due("a flow of 1", 2, flowsIn(52, 1, 0));
        Check.due("a flow below the area", 18, flowsIn(52, 9, 0));
        Check.due("a flow like the area", 20, flowsIn(52, 10, 0));
        Check.due("a flow above the area", 20, flowsIn(52, 11, 0));
        SeaMill mill = new SeaMill();
        mill.set(0, 1000);
        mill.set(5, 200);
        mill.set(1, 100);
        mill.set(2, 300);
        mill.set(3, 100);
        mill.pass(1);
        Check.due("the greatest flow", 200 * 116, mill.pond(0));
        // a level of 50 by 509, a remainder of 9: the head is -1 by the level
        mill = Check.flatMill(51);
        mill.leak(0, 1);
        mill.set(1, 50);
        mill.pass(1);
        mill.leak(0, 0);
        mill.set(1, 51);
        mill.pass(1);
        Check.due("with a remainder", 519, mill.pond(0));
    }

    /** How much leaks in a step out of a pond of level 50 and area 10. */
    private static int leaksOut(int sea, int... leaks) {
        SeaMill mill = Check.flatMill(50);
        mill.set(1, sea);
        for (int sluice = 0; sluice < leaks.length; sluice++) {
            mill.leak(sluice, leaks[sluice]);
        }
        mill.pass(1);
        Check.due("the volume", mill.pond(7) - mill.pond(8), mill.pond(0));
        return mill.pond(8);
    }

    private static void leaks() {
        Check.sentence(STEP, "2 if the head (by the level then) is above 0, through each sluice, one after the other, its "
            + "leak * this head (the same one for all) leaks out");
        Check.due("a head of 1", 3, leaksOut(49, 3));
        Check.due("a head of 0", 0, leaksOut(50, 3));
        Check.due("a head of -1, 0 by the level then", 0, leaksOut(51, 3));
        Check.due("a head of -50, 0 by the level then", 0, leaksOut(100, 20, 20, 20, 20));
        Check.due("sluice 0 alone", 40, leaksOut(48, 20));
        Check.due("sluice 1 alone", 14, leaksOut(48, 0, 7));
        Check.due("sluice 2 alone", 10, leaksOut(48, 0, 0, 5));
        Check.due("sluice 3 alone", 2, leaksOut(48, 0, 0, 0, 1));
        Check.due("no leaks", 0, leaksOut(0, 0, 0, 0, 0));
        Check.due("the same head for all", 10 * 48, leaksOut(2, 4, 3, 2, 1));
        SeaMill mill = Check.flatMill(50);
        mill.leak(2, 1);
        mill.lock(1);
        mill.pass(2);
        Check.due("a lock is none for the sluices; a lower head in the next step", 50 + 45, mill.pond(8));
    }

    private static void leaksOfAllThereIs() {
        Check.sentence(STEP, "but no more than the volume");
        Check.due("less than the volume", 450, leaksOut(0, 9));
        Check.due("the volume", 500, leaksOut(0, 10));
        Check.due("more than the volume", 500, leaksOut(0, 11));
        Check.due("the volume by all", 500, leaksOut(0, 4, 3, 2, 1));
        Check.due("more than the volume by the last", 500, leaksOut(0, 4, 3, 2, 2));
        Check.due("nothing is left for the others", 500, leaksOut(0, 20, 20, 20, 20));
        Check.due("the last but 4", 496, leaksOut(19, 16));
        Check.due("below the level of the sea", 500, leaksOut(19, 16, 1));
        SeaMill mill = Check.flatMill(50);
        mill.leak(0, 20);
        mill.pass(9);
        Check.due("an empty pond", 0, mill.pond(0));
        Check.due("nothing leaks out of it", 500, mill.pond(8));
    }

    /** What is ground in a step by a head of 20, of grain of hardness 2. */
    private static int ground(int opening, int leastHead) {
        SeaMill mill = Mills.stones(20, 2);
        mill.bring(0, 0, 200);
        mill.set(6, leastHead);
        mill.set(7, 3);
        mill.gate(opening);
        mill.pass(1);
        boolean works = mill.pond(10) > 0;
        Check.due("water is used if it works", works ? 3 * opening : 0, mill.pond(9));
        Check.due("a sack comes on the stones if it works", works ? 1 : 0, mill.sackOf(0, 3));
        return mill.pond(10);
    }

    private static void gateOpenAndHead() {
        Check.sentence(STEP, "3 if the opening is above 0");
        Check.due("an opening of 0", 0, ground(0, 0));
        Check.due("an opening of 1", 10, ground(1, 0));
        Check.due("an opening of 2", 20, ground(2, 0));
        Check.due("an opening of 3", 30, ground(3, 0));
        Check.sentence(STEP, "the head (by the level then) is at least the least head and above 0");
        Check.due("one above the least head", 10, ground(1, 19));
        Check.due("the least head", 10, ground(1, 20));
        Check.due("one below the least head", 0, ground(1, 21));
        int[] seas = {19, 20, 21};
        int[] due = {1, 0, 0};
        for (int i = 0; i < seas.length; i++) {
            SeaMill mill = Mills.stones(20, 1);
            mill.bring(0, 0, 200);
            mill.gate(1);
            mill.lock(1);
            mill.set(1, seas[i]);
            mill.pass(1);
            Check.due("a least head of 0, a head of " + (20 - seas[i]), due[i], mill.pond(10));
            Check.due("the stage of the sack", due[i], mill.sackOf(0, 3));
        }
        int[] leastHeads = {40, 41};
        for (int leastHead : leastHeads) {
            SeaMill mill = Mills.stones(100, 1);
            mill.bring(0, 0, 200);
            mill.gate(1);
            mill.leak(0, 6);
            mill.set(6, leastHead);
            mill.pass(1);
            Check.due("100, but 40 after the leaks; least head " + leastHead, leastHead == 40 ? 40 : 0, mill.pond(10));
        }
        SeaMill mill = Mills.stones(20, 1);
        mill.bring(0, 0, 200);
        mill.gate(1);
        mill.set(1, 90);
        mill.pass(1);
        Check.due("the pond is as high as the sea after the inflow", 0, mill.pond(10));
    }

    /** What is used of a volume of 200 with a head of 20; one pound for each head and opening is ground. */
    private static int used(int opening, int water, int leak) {
        SeaMill mill = Mills.stones(20, 1);
        mill.bring(0, 0, 200);
        mill.set(7, water);
        mill.leak(3, leak);
        mill.gate(opening);
        mill.pass(1);
        Check.due("the volume", 200 - mill.pond(8) - mill.pond(9), mill.pond(0));
        int head = 20 - 2 * leak;
        Check.due("pounds by the head before the water is used", mill.pond(9) > 0 ? opening * head : 0, mill.pond(10));
        return mill.pond(9);
    }

    private static void waterOfTheGate() {
        Check.sentence(STEP, "the volume is at least opening * the water of a gate");
        Check.due("opening 1, all the water", 200, used(1, 200, 0));
        Check.due("opening 1, one too many", 0, used(1, 201, 0));
        Check.due("opening 2, all the water", 200, used(2, 100, 0));
        Check.due("opening 2, two too many", 0, used(2, 101, 0));
        Check.due("opening 3, but two", 198, used(3, 66, 0));
        Check.due("opening 3, one too many", 0, used(3, 67, 0));
        Check.due("what the leaks leave", 180, used(1, 180, 1));
        Check.due("one more than the leaks leave", 0, used(1, 181, 1));
        Check.due("the greatest water", 0, used(3, 2000, 0));
        Check.sentence(STEP, "this water is used");
        SeaMill mill = Mills.stones(20, 1);
        mill.bring(0, 0, 200);
        mill.gate(1);
        mill.pass(1);
        Check.due("no water is needed: volume", 200, mill.pond(0));
        Check.due("no water is needed: pounds", 20, mill.pond(10));
        mill.set(7, 30);
        mill.pass(2);
        Check.due("used", 60, mill.pond(9));
        Check.due("pounds by the heads 20, 20 and 17", 57, mill.pond(10));
    }

    private static void sackOnTheStones() {
        Check.sentence(STEP, "and there is a sack on the stones, or one is waiting (the first of the queue comes on the "
            + "stones)");
        SeaMill mill = Mills.stones(20, 1);
        mill.set(7, 10);
        mill.gate(1);
        mill.pass(1);
        Check.due("no sack: no water is used", 0, mill.pond(9));
        mill.bring(0, 0, 30);
        mill.bring(0, 0, 9);
        mill.bring(0, 0, 30);
        mill.set(12, 1);
        mill.pass(1);
        Check.due("the first of the queue", 2, mill.sackOf(1, 3));
        Check.due("no other one", 0, mill.sackOf(0, 3));
        mill.pass(1);
        Check.due("the next one", 1, mill.sackOf(0, 3));
        mill.set(12, 0);
        mill.bring(0, 0, 1);
        mill.set(12, 1);
        mill.pass(1);
        Check.due("the one on the stones stays, though a lighter one waits", 2, mill.sackOf(0, 3));
        mill.pass(1);
        Check.due("then the lighter one", 2, mill.sackOf(3, 3));
        mill.withdraw(2);
        int used = mill.pond(9);
        mill.pass(1);
        Check.due("all are ground or fetched: no water is used", used, mill.pond(9));
        Check.due("none on the stones", Check.NOT_FOUND, mill.pond(6));
    }

    /** What is ground of a sack in a step. */
    private static int ground(int opening, int head, int hardness, int pounds) {
        SeaMill mill = Mills.stones(head, hardness);
        mill.bring(0, 0, pounds);
        mill.gate(opening);
        mill.pass(1);
        Check.due("its grain", pounds - mill.pond(10), mill.sackOf(0, 4));
        Check.due("its stage", pounds > mill.pond(10) ? 1 : 2, mill.sackOf(0, 3));
        return mill.pond(10);
    }

    private static void poundsOfAStep() {
        Check.sentence(STEP, "opening * head / hardness pounds of this sack are ground");
        Check.due("1 * 17 / 9", 1, ground(1, 17, 9, 200));
        Check.due("1 * 18 / 9", 2, ground(1, 18, 9, 200));
        Check.due("2 * 13 / 9, multiplied first", 2, ground(2, 13, 9, 200));
        Check.due("2 * 14 / 9, multiplied first", 3, ground(2, 14, 9, 200));
        Check.due("3 * 5 / 9, multiplied first", 1, ground(3, 5, 9, 200));
        Check.due("3 * 6 / 9, multiplied first", 2, ground(3, 6, 9, 200));
        Check.sentence(STEP, "but at least 1");
        Check.due("1 * 1 / 9", 1, ground(1, 1, 9, 200));
        Check.due("1 * 8 / 9", 1, ground(1, 8, 9, 200));
        Check.due("1 * 9 / 9", 1, ground(1, 9, 9, 200));
        Check.due("1 * 1 / 9 of a pound", 1, ground(1, 1, 9, 1));
        Check.sentence(STEP, "and no more than it has grain.");
        Check.due("100 of 101", 100, ground(1, 100, 1, 101));
        Check.due("100 of 100", 100, ground(1, 100, 1, 100));
        Check.due("100 of 99", 99, ground(1, 100, 1, 99));
        Check.due("300 of 200", 200, ground(3, 100, 1, 200));
        Check.due("300 of 1", 1, ground(3, 100, 1, 1));
    }

    private static void sackWithoutGrain() {
        Check.sentence(STEP, "A sack without grain is ground, and leaves the stones.");
        SeaMill mill = Mills.stones(100, 1);
        mill.bring(0, 0, 101);
        mill.bring(0, 0, 5);
        mill.gate(1);
        mill.pass(1);
        Check.due("a pound of grain: on the stones", 0, mill.pond(6));
        Check.due("a pound of grain: stage", 1, mill.sackOf(0, 3));
        mill.pass(1);
        Check.due("no grain: off the stones", Check.NOT_FOUND, mill.pond(6));
        Check.due("no grain: stage", 2, mill.sackOf(0, 3));
        Check.due("the next one waits for the next step", 0, mill.sackOf(1, 3));
        mill.pass(1);
        Check.due("it comes and is ground in one step", 2, mill.sackOf(1, 3));
        Check.due("all that was ground", 106, mill.pond(10));
    }

    private static void pass() {
        Check.sentence("Promise 21: pass", "`steps`: 1 to 200");
        Twins.changes("pass(1)", 197, Mills::busy, mill -> mill.pass(1));
        Twins.changes("pass(200)", 396, Mills::busy, mill -> mill.pass(200));
        Check.sentence("Promise 21: pass", "Returns the time then");
        SeaMill mill = new SeaMill();
        Check.due("pass(1)", 1, mill.pass(1));
        Check.due("pass(200)", 201, mill.pass(200));
        Check.sentence("Promise 21: pass", "INVALID_ARGUMENT if steps is out of range");
        for (int wrong : new int[] {0, -1, 201, MIN, MAX}) {
            Twins.keeps("pass(" + wrong + ")", Check.INVALID, Mills::busy, its -> its.pass(wrong));
        }
        Check.sentence("Promise 21: pass", "LIMIT_REACHED if it would be greater than 10000.");
        Twins.changes("pass(1) at 9999", 10000, () -> Mills.at(9999), its -> its.pass(1));
        Twins.changes("pass(200) at 9800", 10000, () -> Mills.at(9800), its -> its.pass(200));
        Twins.keeps("pass(200) at 9801", Check.LIMIT, () -> Mills.at(9801), its -> its.pass(200));
        Twins.keeps("pass(2) at 9999", Check.LIMIT, () -> Mills.at(9999), its -> its.pass(2));
        Twins.keeps("pass(1) at 10000", Check.LIMIT, () -> Mills.at(10000), its -> its.pass(1));
        Twins.keeps("pass(200) at 10000", Check.LIMIT, () -> Mills.at(10000), its -> its.pass(200));
    }

    private static void seaIn() {
        Check.sentence("Promise 22: seaIn", "`steps`: 0 to 5000, from now");
        Check.sentence("Promise 22: seaIn", "Returns its level");
        Twins.keeps("seaIn(0)", 20, SeaMill::new, mill -> mill.seaIn(0));
        Twins.keeps("seaIn(1)", 24, SeaMill::new, mill -> mill.seaIn(1));
        Twins.keeps("seaIn(4999)", 20 + 117 / 25, SeaMill::new, mill -> mill.seaIn(4999));
        Twins.keeps("seaIn(5000)", 20, SeaMill::new, mill -> mill.seaIn(5000));
        Twins.keeps("seaIn(5000) at 7, of tide 100", 20 + 114 * 7 / 25, () -> Mills.at(7), mill -> mill.seaIn(5000));
        Twins.keeps("seaIn(5000) at 10000", 20, () -> Mills.at(10000), mill -> mill.seaIn(5000));
        Twins.keeps("seaIn(4975) at 10000, of tide 299", 20 + 100 + 20 * 2 / 7, () -> Mills.at(10000),
            mill -> mill.seaIn(4975));
        Check.sentence("Promise 22: seaIn", "Foretells how the sea will stand, by the settings as they are.");
        SeaMill mill = Mills.at(10);
        Check.due("seaIn(0) is the sea", mill.pond(2), mill.seaIn(0));
        mill.set(1, 7);
        mill.set(4, 20);
        Check.due("seaIn(0) at the high of the new period", 127, mill.seaIn(0));
        Check.due("seaIn(10) at the low of the new period", 7, mill.seaIn(10));
        Check.sentence("Promise 22: seaIn", "INVALID_ARGUMENT if steps is out of range.");
        for (int wrong : new int[] {-1, 5001, MIN, MAX}) {
            Twins.keeps("seaIn(" + wrong + ")", Check.INVALID, Mills::busy, its -> its.seaIn(wrong));
        }
    }

    private static void nextHigh() {
        Check.sentence("Promise 23: nextHigh", "Foretells in how many steps, at least 1, the phase of the tide will be "
            + "half the period (rounded down), by the settings as they are.");
        Check.sentence("Promise 23: nextHigh", "Returns the number of steps.");
        int[] times = {0, 24, 25, 26, 49, 50, 74, 75, 76, 9999, 10000};
        int[] due = {25, 1, 50, 49, 26, 25, 1, 50, 49, 26, 25};
        for (int i = 0; i < times.length; i++) {
            int time = times[i];
            Twins.keeps("nextHigh() at " + time, due[i], () -> Mills.at(time), SeaMill::nextHigh);
        }
        int[] periods = {4, 5, 99, 100};
        int[][] steps = {{2, 1, 4, 3, 2}, {2, 1, 5, 4, 3}, {49, 48, 47, 46, 45}, {50, 49, 48, 47, 46}};
        for (int i = 0; i < periods.length; i++) {
            for (int time = 0; time <= 4; time++) {
                SeaMill mill = Mills.at(time);
                mill.set(4, periods[i]);
                Check.due("nextHigh() at " + time + ", period " + periods[i], steps[i][time], mill.nextHigh());
            }
        }
        SeaMill mill = Mills.at(49);
        mill.set(4, 99);
        Check.due("nextHigh() at 49, period 99", 99, mill.nextHigh());
        mill.set(4, 100);
        Check.due("nextHigh() at 49, period 100", 1, mill.nextHigh());
        mill.set(4, 98);
        Check.due("nextHigh() at 49, period 98", 98, mill.nextHigh());
    }

    private static void pond() {
        Check.sentence("Promise 24: pond", "Returns the number");
        Check.sentence("Promise 24: pond", "`what`: 0: the volume; 1: the level; 2: the level of the sea; 3: the head; 4: "
            + "the opening of the mill gate; 5: 1 if the sea gate is locked, otherwise 0; 6: the sack on the stones; 7: "
            + "all that flowed in; 8: all that leaked out; 9: all that was used; 10: all pounds that were ground; 11 to "
            + "14: the leaks of the sluices 0 to 3");
        int[] its = {791, 79, 3, 76, 2, 1, 8, 1000, 183, 26, 427, 0, 0, 1, 0};
        for (int what = 0; what <= 14; what++) {
            int number = what;
            Twins.keeps("pond(" + what + ")", its[what], WaterSentences::worked, mill -> mill.pond(number));
        }
        Check.sentence("Promise 24: pond", "INVALID_ARGUMENT if what is out of range");
        for (int wrong : new int[] {-1, 15, MIN, MAX}) {
            Twins.keeps("pond(" + wrong + ")", Check.INVALID, Mills::busy, mill -> mill.pond(wrong));
        }
        Check.sentence("Promise 24: pond", "NOT_FOUND for 6 if there is none.");
        SeaMill mill = Mills.stones(100, 1);
        Check.due("pond(6), no sack", Check.NOT_FOUND, mill.pond(6));
        mill.bring(0, 0, 150);
        Check.due("pond(6), a sack waits", Check.NOT_FOUND, mill.pond(6));
        mill.gate(1);
        mill.pass(1);
        Check.due("pond(6), sack 0 on the stones", 0, mill.pond(6));
        mill.pass(1);
        Check.due("pond(6), it is ground", Check.NOT_FOUND, mill.pond(6));
    }

    /**
     * The busy mill two steps later: 97 and 86 have leaked by these heads, 13 were used each time, and 70 pounds of
     * sack 4 and 77 of sack 8 were ground.
     */
    private static SeaMill worked() {
        SeaMill mill = Mills.busy();
        mill.withdraw(5);
        mill.withdraw(6);
        mill.bring(0, 0, 200);
        mill.set(1, 3);
        mill.leak(2, 1);
        mill.set(7, 13);
        mill.gate(1);
        mill.lock(1);
        mill.pass(2);
        mill.gate(2);
        return mill;
    }

    private static void foresee() {
        Check.sentence("Promise 25: foresee", "Returns the number of steps");
        SeaMill mill = Mills.busy();
        Check.due("foresee(4), on the stones", 1, mill.foresee(4));
        Check.due("foresee(5), the first that waits", 2, mill.foresee(5));
        Check.due("foresee(6), the last that waits", 3, mill.foresee(6));
        Twins.keeps("foresee(6)", 3, Mills::busy, its -> its.foresee(6));
        int[] steps = {1, 6, 4, 3, 5};
        for (int sack = 0; sack <= 4; sack++) {
            int its = sack;
            Twins.keeps("by kinds, foresee(" + sack + ")", steps[sack], Mills::byKinds, mills -> mills.foresee(its));
        }
        mill.set(12, 1);
        Check.due("foresee(5), the lightest first", 3, mill.foresee(5));
        Check.due("foresee(6), the lightest first", 2, mill.foresee(6));
        Check.sentence("Promise 25: foresee", "`sack`: number of the sack");
        Check.sentence("Promise 25: foresee", "INVALID_ARGUMENT");
        for (int wrong : new int[] {-1, 8, MIN, MAX}) {
            Twins.keeps("foresee(" + wrong + ")", Check.INVALID, Mills::busy, its -> its.foresee(wrong));
        }
        Check.due("foresee(0) without sacks", Check.INVALID, new SeaMill().foresee(0));
        Check.sentence("Promise 25: foresee", "NOT_POSSIBLE if it is ground or fetched");
        Twins.keeps("foresee(2), ground", Check.NOT_POSSIBLE, Mills::busy, its -> its.foresee(2));
        Twins.keeps("foresee(0), in pledge", Check.NOT_POSSIBLE, Mills::busy, its -> its.foresee(0));
        Twins.keeps("foresee(3), fetched", Check.NOT_POSSIBLE, Mills::busy, its -> its.foresee(3));
        Twins.keeps("foresee(7), withdrawn", Check.NOT_POSSIBLE, Mills::busy, its -> its.foresee(7));
        mill.gate(0);
        Check.due("foresee(2), ground, the gate is closed", Check.NOT_POSSIBLE, mill.foresee(2));
        Check.due("foresee(4), the gate is closed", Check.NOT_FOUND, mill.foresee(4));
    }

    /** 1000 pounds in sacks 0 to 4, then a pound in sack 5; one pound is ground in each step. */
    private static SeaMill slow() {
        SeaMill mill = Mills.stones(9, 9);
        for (int sack = 0; sack < 5; sack++) {
            mill.bring(0, 0, 200);
        }
        mill.bring(0, 0, 1);
        mill.gate(1);
        return mill;
    }

    /** The slow mill, with a closed gate up to this time. */
    private static SeaMill slowAt(int time) {
        SeaMill mill = slow();
        mill.gate(0);
        Mills.passTo(mill, time);
        mill.gate(1);
        return mill;
    }

    private static void foreseeLimit() {
        Check.sentence("Promise 25: foresee", "NOT_FOUND if it would not be within 1000 steps.");
        Check.due("foresee(0), 200 steps", 200, slow().foresee(0));
        Twins.keeps("foresee(4), 1000 steps", 1000, WaterSentences::slow, mill -> mill.foresee(4));
        Twins.keeps("foresee(5), 1001 steps", Check.NOT_FOUND, WaterSentences::slow, mill -> mill.foresee(5));
        SeaMill mill = slow();
        mill.pass(1);
        Check.due("foresee(5), a step later", 1000, mill.foresee(5));
        Check.due("foresee(4), a step later", 999, mill.foresee(4));
        Check.sentence("Promise 25: foresee", "Foretells in how many steps (also beyond the time 10000) a sack will be "
            + "ground, if nothing is done.");
        Check.due("foresee(4) at 9000", 1000, slowAt(9000).foresee(4));
        Check.due("foresee(4) at 9001", 1000, slowAt(9001).foresee(4));
        Twins.keeps("foresee(4) at 10000", 1000, () -> slowAt(10000), its -> its.foresee(4));
        Twins.keeps("foresee(5) at 10000", Check.NOT_FOUND, () -> slowAt(10000), its -> its.foresee(5));
    }

    /** The best gate if these are the pounds that wait; each opening grinds a pound a step for each 1 of it. */
    private static int best(int steps, int time, int... pounds) {
        SeaMill mill = Mills.stones(9, 9);
        Mills.passTo(mill, time);
        for (int its : pounds) {
            mill.bring(0, 0, its);
        }
        return mill.bestGate(steps);
    }

    private static void bestGate() {
        Check.sentence("Promise 26: bestGate", "`steps`: 1 to 200");
        Check.due("bestGate(1), a pound by each opening", 1, best(1, 1, 1));
        Check.due("bestGate(1), two pounds", 2, best(1, 1, 2));
        Check.due("bestGate(1), more pounds than any opening grinds", 3, best(1, 1, 200));
        Check.due("bestGate(200), 200 pounds by each opening", 1, best(200, 1, 200));
        Check.due("bestGate(199), 200 pounds", 2, best(199, 1, 200));
        Check.due("bestGate(200), 201 pounds", 2, best(200, 1, 200, 1));
        Check.due("bestGate(200), 401 pounds", 3, best(200, 1, 200, 200, 1));
        Check.due("bestGate(200) beyond the time 10000", 1, best(200, 10000, 200));
        Check.due("bestGate(200) beyond the time 10000", 2, best(200, 9900, 200, 1));
        Check.sentence("Promise 26: bestGate", "of several the least one");
        Check.sentence("Promise 26: bestGate", "Returns the opening");
        Check.due("no sack", 0, best(200, 1));
        Check.due("2 and 3 alike", 2, best(1, 1, 2, 2));
        Check.due("1, 2 and 3 alike", 1, best(3, 1, 1, 1, 1));
        SeaMill mill = Mills.stones(9, 9);
        mill.bring(0, 0, 200);
        mill.gate(3);
        mill.set(7, 91);
        Check.due("none has water enough", 0, mill.bestGate(1));
        mill.set(7, 90);
        Check.due("1 alone has water enough", 1, mill.bestGate(200));
        mill.set(7, 45);
        Check.due("by 1 in a step 1, by 2 in a step 2", 2, mill.bestGate(1));
        Check.due("by 1 in two steps 1 each, by 2 in one 2", 1, mill.bestGate(2));
        Check.sentence("Promise 26: bestGate", "Foretells by which opening of the mill gate, kept for some steps from "
            + "now, most pounds would be ground in these");
        Twins.keeps("bestGate(200)", 1, Mills::busy, its -> its.bestGate(200));
        Twins.keeps("bestGate(1), 70 pounds are left", 1, Mills::busy, its -> its.bestGate(1));
        Twins.keeps("bestGate(2), 70 and 20 pounds", 1, Mills::busy, its -> its.bestGate(2));
        // 17 pounds of sack 0, then 33 of sack 3: each opening grinds 11 a step for each 1 of it
        Twins.keeps("bestGate(1), by kinds", 2, Mills::byKinds, its -> its.bestGate(1));
        Twins.keeps("bestGate(2), by kinds", 3, Mills::byKinds, its -> its.bestGate(2));
        Check.sentence("Promise 26: bestGate", "INVALID_ARGUMENT if steps is out of range.");
        for (int wrong : new int[] {0, -1, 201, MIN, MAX}) {
            Twins.keeps("bestGate(" + wrong + ")", Check.INVALID, Mills::busy, its -> its.bestGate(wrong));
        }
    }
}
