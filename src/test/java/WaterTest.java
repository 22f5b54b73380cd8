/** Promises 21 to 26: pass, seaIn, nextHigh, pond, foresee, bestGate. */
public final class WaterTest {
    private WaterTest() {
    }

    public static void main(String[] arguments) {
        pass();
        passToTheLimit();
        springsAndNeaps();
        phases();
        seaIn();
        nextHigh();
        pond();
        flow();
        leaks();
        gateConditions();
        headAfterTheLeaks();
        leastPound();
        foresee();
        foreseeToTheEnd();
        bestGate();
        Check.end("WaterTest");
    }

    private static void pass() {
        SeaMill mill = new SeaMill();
        Check.due("pass(0)", Check.INVALID, mill.pass(0));
        Check.due("pass(-1)", Check.INVALID, mill.pass(-1));
        Check.due("pass(201)", Check.INVALID, mill.pass(201));
        Check.due("pass(MAX)", Check.INVALID, mill.pass(Integer.MAX_VALUE));
        Check.due("no time went by", 0, mill.count(7));
        Check.due("pass(1)", 1, mill.pass(1));
        Check.due("pass(94)", 95, mill.pass(94));
        Check.due("day 0", 0, mill.count(8));
        Check.due("pass(1)", 96, mill.pass(1));
        Check.due("day 1", 1, mill.count(8));
        Check.due("pass(200)", 296, mill.pass(200));
        Check.due("day 3", 3, mill.count(8));
        Check.due("one change each", 4, mill.count(9));
    }

    private static void passToTheLimit() {
        SeaMill mill = Check.fastMill(1);
        mill.gate(0);
        mill.bring(0, 0, 200);
        mill.pass(199);
        for (int i = 2; i < 50; i++) {
            mill.pass(200);
        }
        Check.due("time", 9800, mill.count(7));
        mill.pass(100);
        Check.due("pass(101)", Check.LIMIT, mill.pass(101));
        Check.due("pass(200)", Check.LIMIT, mill.pass(200));
        Check.due("pass(201)", Check.INVALID, mill.pass(201));
        Check.due("time is kept", 9900, mill.count(7));
        Check.due("pass(100)", 10000, mill.pass(100));
        Check.due("pass(1)", Check.LIMIT, mill.pass(1));
        Check.due("pass(0)", Check.INVALID, mill.pass(0));
        Check.due("day", 104, mill.count(8));
        mill.gate(1);
        Check.due("foresee beyond the time 10000", 2, mill.foresee(0));
        Check.due("bestGate beyond the time 10000", 2, mill.bestGate(1));
        mill.set(2, 50);
        mill.set(4, 100);
        Check.due("seaIn beyond the time 10000", 1, mill.seaIn(1));
        Check.due("nextHigh beyond the time 10000", 50, mill.nextHigh());
    }

    private static void springsAndNeaps() {
        SeaMill mill = new SeaMill();
        int[] highs = {140, 137, 134, 131, 128, 125, 122, 120, 122, 125, 128, 131, 134, 137, 140, 137};
        for (int tide = 0; tide < highs.length; tide++) {
            Check.due("high of tide " + tide, highs[tide], mill.seaIn(50 * tide + 25));
            Check.due("low of tide " + tide, 20, mill.seaIn(50 * tide));
        }
        mill.set(3, 0);
        Check.due("no spring", 120, mill.seaIn(25));
        mill.set(3, 100);
        mill.set(2, 0);
        Check.due("spring alone", 120, mill.seaIn(25));
        Check.due("tide 4", 20 + 42, mill.seaIn(225));
        Check.due("neap", 20, mill.seaIn(375));
    }

    private static void phases() {
        SeaMill mill = new SeaMill();
        mill.set(1, 0);
        mill.set(3, 0);
        mill.set(4, 5);
        int[] odd = {0, 50, 100, 66, 33, 0, 50, 100, 66, 33, 0};
        for (int time = 0; time < odd.length; time++) {
            Check.due("period 5, time " + time, odd[time], mill.seaIn(time));
        }
        mill.set(4, 4);
        int[] even = {0, 50, 100, 50, 0, 50};
        for (int time = 0; time < even.length; time++) {
            Check.due("period 4, time " + time, even[time], mill.seaIn(time));
        }
        mill.set(4, 7);
        int[] seven = {0, 33, 66, 100, 75, 50, 25, 0};
        for (int time = 0; time < seven.length; time++) {
            Check.due("period 7, time " + time, seven[time], mill.seaIn(time));
        }
    }

    private static void seaIn() {
        SeaMill mill = new SeaMill();
        Check.due("seaIn(-1)", Check.INVALID, mill.seaIn(-1));
        Check.due("seaIn(5001)", Check.INVALID, mill.seaIn(5001));
        Check.due("seaIn(MIN)", Check.INVALID, mill.seaIn(Integer.MIN_VALUE));
        Check.due("seaIn(0)", 20, mill.seaIn(0));
        Check.due("seaIn(1)", 24, mill.seaIn(1));
        Check.due("seaIn(5000)", 20, mill.seaIn(5000));
        Check.due("seaIn(4999)", 20 + 117 / 25, mill.seaIn(4999));
        mill.pass(10);
        Check.due("now", mill.pond(2), mill.seaIn(0));
        Check.due("from now", 20 + 120 * 11 / 25, mill.seaIn(1));
        mill.set(1, 100);
        Check.due("by the settings as they are", 100 + 120 * 11 / 25, mill.seaIn(1));
        Check.due("no time went by", 10, mill.count(7));
    }

    private static void nextHigh() {
        SeaMill mill = new SeaMill();
        Check.due("at 0", 25, mill.nextHigh());
        mill.pass(24);
        Check.due("at 24", 1, mill.nextHigh());
        mill.pass(1);
        Check.due("at 25", 50, mill.nextHigh());
        mill.pass(1);
        Check.due("at 26", 49, mill.nextHigh());
        mill.pass(24);
        Check.due("at 50", 25, mill.nextHigh());
        mill.set(4, 7);
        Check.due("at 50 of 7", 2, mill.nextHigh());
        mill.set(4, 100);
        Check.due("at 50 of 100", 100, mill.nextHigh());
        mill.set(4, 4);
        Check.due("at 50 of 4", 4, mill.nextHigh());
    }

    private static void pond() {
        SeaMill mill = new SeaMill();
        Check.due("pond(-1)", Check.INVALID, mill.pond(-1));
        Check.due("pond(15)", Check.INVALID, mill.pond(15));
        Check.due("pond(MAX)", Check.INVALID, mill.pond(Integer.MAX_VALUE));
        mill = Check.flatMill(99);
        mill.kind(9, 0, 1);
        mill.farmer();
        mill.bring(0, 0, 5);
        mill.bring(0, 0, 55);
        mill.gate(2);
        mill.set(7, 30);
        mill.leak(1, 1);
        mill.leak(3, 2);
        mill.pass(1);
        // 990 - 99 - 198 = 693 have a level of 69; 2 * 69 / 9 = 15 pounds, no more than 5; 60 are used
        int[] first = {633, 63, 0, 63, 2, 0, Check.NOT_FOUND, 990, 297, 60, 5, 0, 1, 0, 2};
        for (int what = 0; what < first.length; what++) {
            Check.due("pond(" + what + ")", first[what], mill.pond(what));
        }
        mill.lock(1);
        mill.pass(1);
        // 633 - 63 - 126 = 444 have a level of 44; 2 * 44 / 9 = 9 pounds
        int[] second = {384, 38, 0, 38, 2, 1, 1, 990, 486, 120, 14, 0, 1, 0, 2};
        for (int what = 0; what < second.length; what++) {
            Check.due("then pond(" + what + ")", second[what], mill.pond(what));
        }
    }

    private static void flow() {
        SeaMill mill = new SeaMill();
        mill.pass(1);
        Check.due("flow * d", 60 * 24, mill.pond(0));
        mill = new SeaMill();
        mill.set(0, 59);
        mill.pass(1);
        Check.due("area * d", 59 * 24, mill.pond(0));
        Check.due("as high as the sea", 0, mill.pond(3));
        mill = new SeaMill();
        mill.set(5, 0);
        mill.pass(20);
        Check.due("no flow", 0, mill.pond(7));
        mill.set(5, 200);
        mill.set(0, 1000);
        mill.pass(1);
        Check.due("the greatest flow", 200 * (20 + 120 * 21 / 25), mill.pond(7));
        mill.lock(1);
        mill.pass(1);
        Check.due("locked", 200 * 120, mill.pond(7));
    }

    private static void leaks() {
        SeaMill mill = Check.flatMill(100);
        mill.leak(0, 2);
        mill.leak(1, 1);
        mill.leak(2, 3);
        mill.pass(1);
        Check.due("the same head for all", 600, mill.pond(8));
        mill.pass(1);
        Check.due("less by a lower head", 600 + 6 * 40, mill.pond(8));
        mill = Check.flatMill(100);
        mill.leak(1, 9);
        mill.leak(2, 2);
        mill.leak(3, 1);
        mill.pass(1);
        Check.due("no more than the volume", 1000, mill.pond(8));
        Check.due("empty", 0, mill.pond(0));
        mill.pass(5);
        Check.due("nothing is left to leak", 1000, mill.pond(8));
        mill = Check.flatMill(100);
        mill.leak(0, 20);
        mill.set(1, 100);
        mill.pass(1);
        Check.due("no head, no leak", 0, mill.pond(8));
        mill.lock(1);
        mill.set(1, 99);
        mill.pass(1);
        Check.due("a head of 1", 20, mill.pond(8));
    }

    /** Sets up a mill of head 20 and volume 200 and tells what one step grinds in it. */
    private static int ground(int opening, int leastHead, int water, boolean withSack) {
        SeaMill mill = Check.flatMill(20);
        mill.kind(2, 0, 1);
        mill.farmer();
        if (withSack) {
            mill.bring(0, 0, 200);
        }
        mill.set(6, leastHead);
        mill.set(7, water);
        mill.gate(opening);
        mill.pass(1);
        int used = mill.pond(10) > 0 ? opening * water : 0;
        Check.due("water that was used", used, mill.pond(9));
        Check.due("the sack on the stones", mill.pond(10) > 0 ? 0 : Check.NOT_FOUND, mill.pond(6));
        return mill.pond(10);
    }

    private static void gateConditions() {
        Check.due("opening 0", 0, ground(0, 0, 0, true));
        Check.due("opening 1", 10, ground(1, 0, 50, true));
        Check.due("opening 2", 20, ground(2, 0, 50, true));
        Check.due("opening 3", 30, ground(3, 0, 50, true));
        Check.due("the least head", 20, ground(2, 20, 50, true));
        Check.due("below the least head", 0, ground(2, 21, 50, true));
        Check.due("all the water", 20, ground(2, 0, 100, true));
        Check.due("too little water", 0, ground(2, 0, 101, true));
        Check.due("no water is needed", 10, ground(1, 0, 0, true));
        Check.due("no sack", 0, ground(1, 0, 50, false));
        SeaMill mill = Check.flatMill(20);
        mill.kind(1, 0, 1);
        mill.farmer();
        mill.bring(0, 0, 200);
        mill.gate(1);
        mill.set(1, 20);
        mill.pass(3);
        Check.due("a head of 0 is too little for a least head of 0", 0, mill.pond(10));
        Check.due("the sack is waiting", 0, mill.sackOf(0, 3));
        mill.set(1, 19);
        mill.pass(3);
        Check.due("a head of 1", 3, mill.pond(10));
        mill.gate(0);
        mill.pass(1);
        Check.due("a sack stays on the stones", 0, mill.pond(6));
        Check.due("a closed gate grinds nothing", 3, mill.pond(10));
    }

    private static void headAfterTheLeaks() {
        SeaMill mill = Check.flatMill(100);
        mill.kind(1, 0, 1);
        mill.farmer();
        mill.bring(0, 0, 200);
        mill.gate(1);
        mill.leak(0, 6);
        mill.set(7, 399);
        mill.pass(1);
        Check.due("ground by the head after the leaks, before the gate", 40, mill.pond(10));
        Check.due("volume", 1, mill.pond(0));
        mill = Check.flatMill(100);
        mill.kind(1, 0, 1);
        mill.farmer();
        mill.bring(0, 0, 200);
        mill.gate(1);
        mill.leak(0, 6);
        mill.set(6, 41);
        mill.pass(1);
        Check.due("the leaks bring it below the least head", 0, mill.pond(10));
    }

    private static void leastPound() {
        SeaMill mill = Check.flatMill(8);
        mill.kind(9, 0, 1);
        mill.farmer();
        mill.bring(0, 0, 200);
        mill.gate(1);
        mill.pass(1);
        Check.due("at least 1", 1, mill.pond(10));
        mill.gate(2);
        mill.pass(1);
        Check.due("2 * 8 / 9", 2, mill.pond(10));
        mill.gate(3);
        mill.pass(1);
        Check.due("3 * 8 / 9", 4, mill.pond(10));
    }

    private static void foresee() {
        SeaMill mill = Check.flatMill(100);
        mill.kind(5, 0, 1);
        mill.farmer();
        mill.bring(0, 0, 200);
        mill.bring(0, 0, 30);
        mill.bring(0, 0, 20);
        Check.due("foresee(-1)", Check.INVALID, mill.foresee(-1));
        Check.due("foresee(3)", Check.INVALID, mill.foresee(3));
        Check.due("the gate is closed", Check.NOT_FOUND, mill.foresee(0));
        mill.gate(1);
        Check.due("foresee(0)", 10, mill.foresee(0));
        Check.due("foresee(1)", 12, mill.foresee(1));
        Check.due("foresee(2)", 13, mill.foresee(2));
        mill.set(12, 1);
        Check.due("the lightest: foresee(0)", 13, mill.foresee(0));
        Check.due("the lightest: foresee(2)", 1, mill.foresee(2));
        Check.due("nothing is done", 1, mill.count(7));
        mill.pass(1);
        Check.due("ground", Check.NOT_POSSIBLE, mill.foresee(2));
        mill.fetch(2);
        Check.due("fetched", Check.NOT_POSSIBLE, mill.foresee(2));
        mill.pass(1);
        Check.due("on the stones", 1, mill.foresee(1));
        mill.withdraw(0);
        Check.due("withdrawn", Check.NOT_POSSIBLE, mill.foresee(0));
        Check.due("the sack is still on the stones", 1, mill.pond(6));
    }

    private static void foreseeToTheEnd() {
        SeaMill mill = Check.flatMill(9);
        mill.kind(9, 0, 1);
        mill.farmer();
        for (int i = 0; i < 5; i++) {
            mill.bring(0, 0, 200);
        }
        mill.bring(0, 0, 1);
        mill.gate(1);
        Check.due("within 1000 steps", 1000, mill.foresee(4));
        Check.due("not within 1000 steps", Check.NOT_FOUND, mill.foresee(5));
        mill.pass(1);
        Check.due("a step later", 1000, mill.foresee(5));
    }

    private static void bestGate() {
        SeaMill mill = Check.flatMill(100);
        Check.due("bestGate(0)", Check.INVALID, mill.bestGate(0));
        Check.due("bestGate(-1)", Check.INVALID, mill.bestGate(-1));
        Check.due("bestGate(201)", Check.INVALID, mill.bestGate(201));
        Check.due("no sack: the least one", 0, mill.bestGate(200));
        mill.kind(1, 0, 1);
        mill.farmer();
        mill.bring(0, 0, 1);
        Check.due("any opening grinds it: the least one", 1, mill.bestGate(1));
        mill.withdraw(0);
        for (int i = 0; i < 4; i++) {
            mill.bring(0, 0, 200);
        }
        Check.due("200 in a step", 2, mill.bestGate(1));
        mill.gate(1);
        Check.due("400 in two steps", 2, mill.bestGate(2));
        // 1: 100 + 75 + 50 + 25 in four steps; 2: 200 + 100 in two; 3: 200, no more than the sack has
        mill.set(7, 250);
        Check.due("by water: one step", 2, mill.bestGate(1));
        Check.due("by water: two steps", 2, mill.bestGate(2));
        // 1: 100 + 66; 2: 200, then 330 are left for 680; 3: 1020 are too many
        mill.set(7, 340);
        Check.due("too much water for 3", 2, mill.bestGate(200));
        // 1: 100 + 50; 2: 200 by all the water
        mill.set(7, 500);
        Check.due("all the water at once", 2, mill.bestGate(200));
        mill.set(7, 501);
        Check.due("1 alone has water enough", 1, mill.bestGate(200));
        mill.set(7, 1001);
        Check.due("none has water enough", 0, mill.bestGate(200));
        Check.due("the opening is kept", 1, mill.pond(4));
        Check.due("no time went by", 1, mill.count(7));
        mill.set(7, 0);
        mill.leak(0, 1);
        mill.bring(0, 0, 200);
        mill.gate(3);
        Check.due("90 pounds for each opening", 3, mill.bestGate(1));
        Check.due("200 steps", 3, bestOfSmallSteps(200));
        Check.due("1 step", 3, bestOfSmallSteps(1));
    }

    /** Head 9 and hardness 9: an opening grinds as many pounds in a step as it has. */
    private static int bestOfSmallSteps(int steps) {
        SeaMill mill = Check.flatMill(9);
        mill.kind(9, 0, 1);
        mill.farmer();
        for (int i = 0; i < 5; i++) {
            mill.bring(0, 0, 200);
        }
        return mill.bestGate(steps);
    }
}
