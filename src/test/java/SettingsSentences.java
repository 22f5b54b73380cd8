/** The boundary cases of the introduction, "Terms", "Settings", and promises 1 to 5. */
final class SettingsSentences {
    private static final String SETTINGS = "Settings";
    private static final int MIN = Integer.MIN_VALUE;
    private static final int MAX = Integer.MAX_VALUE;
    private static final int[] LEAST = {10, 0, 0, 0, 4, 0, 0, 0, 0, 0, 1, 1, 0};
    private static final int[] GREATEST = {1000, 100, 300, 100, 100, 200, 100, 2000, 50, 100, 60, 100, 3};
    private static final int[] FIRST = {100, 20, 100, 20, 50, 60, 10, 200, 10, 5, 10, 50, 0};
    private static final int[] FIRST_LEAKS = {2, 1, 3, 0};

    private SettingsSentences() {
    }

    static void all() {
        callsOfAnObject();
        roundingDown();
        timeAtFirst();
        days();
        firstSettings();
        rangesOfSettings();
        newObject();
        set();
        leak();
        lock();
        gate();
    }

    private static void callsOfAnObject() {
        Check.sentence("What it is", "An object is used for at most 512 calls after it has been made");
        SeaMill mill = new SeaMill();
        for (int call = 1; call < 512; call++) {
            mill.set(1, call % 101);
        }
        Check.due("the 512th call, set(1, 0)", 511 % 101, mill.set(1, 0));
        mill = new SeaMill();
        for (int call = 1; call < 511; call++) {
            mill.set(1, call % 101);
        }
        Check.due("the 511th call, undo()", 3, mill.undo());
        Check.due("the 512th call, count(21)", 509 % 101, mill.count(21));
    }

    private static void roundingDown() {
        Check.sentence("Terms", "divisions are rounded down (all divided numbers are at least 0)");
        SeaMill mill = new SeaMill();
        Check.due("0 / 100: the level", 0, mill.pond(1));
        mill.set(5, 1);
        mill.set(1, 99);
        mill.set(2, 0);
        mill.set(3, 0);
        mill.pass(1);
        Check.due("99 / 100: the level", 0, mill.pond(1));
        Check.due("99 / 100: the head", -99, mill.pond(3));
        mill.set(1, 1);
        mill.pass(1);
        Check.due("100 / 100: the level", 1, mill.pond(1));
        mill.set(0, 51);
        Check.due("100 / 51: the level", 1, mill.pond(1));
        mill.set(0, 50);
        Check.due("100 / 50: the level", 2, mill.pond(1));
        mill.set(0, 34);
        Check.due("100 / 34: the level", 2, mill.pond(1));
    }

    private static void timeAtFirst() {
        Check.sentence("Terms", "Time is told in steps, 0 at first");
        SeaMill mill = new SeaMill();
        Check.due("count(7) at first", 0, mill.count(7));
        Check.due("count(8) at first", 0, mill.count(8));
        mill.pass(1);
        Check.due("count(7) after a step", 1, mill.count(7));
    }

    private static void days() {
        Check.sentence("Terms", "a day has 96 steps, and the day is time / 96.");
        int[] times = {95, 96, 191, 192, 9983, 9984, 10000};
        int[] days = {0, 1, 1, 2, 103, 104, 104};
        for (int i = 0; i < times.length; i++) {
            SeaMill mill = Mills.at(times[i]);
            Check.due("count(7)", times[i], mill.count(7));
            Check.due("count(8) at " + times[i], days[i], mill.count(8));
        }
    }

    private static void firstSettings() {
        Check.sentence(SETTINGS, "The settings are (in parentheses: range; first value): 0 the area of the pond (10 to "
            + "1000; 100), 1 the low water (0 to 100; 20), 2 the rise (0 to 300; 100), 3 the spring (0 to 100; 20), 4 "
            + "the period (4 to 100; 50), 5 the flow (0 to 200; 60), 6 the least head (0 to 100; 10), 7 the water of a "
            + "gate (0 to 2000; 200), 8 the toll in percent (0 to 50; 10), 9 the interest in thousandths a day (0 to "
            + "100; 5), 10 the days of a pledge (1 to 60; 10), 11 the share lent in percent (1 to 100; 50), 12 the rule "
            + "of the queue (0 to 3; 0).");
        SeaMill mill = new SeaMill();
        for (int what = 0; what <= 12; what++) {
            Check.due("count(" + (20 + what) + ") at first", FIRST[what], mill.count(20 + what));
        }
    }

    private static void rangesOfSettings() {
        Check.sentence("Promise 2: set", "`value`: a value in its range");
        for (int what = 0; what <= 12; what++) {
            int its = what;
            String call = "set(" + what + ", ";
            Twins.changes(call + LEAST[what] + ")", FIRST[what], SeaMill::new, mill -> mill.set(its, LEAST[its]));
            Twins.changes(call + GREATEST[what] + ")", FIRST[what], SeaMill::new, mill -> mill.set(its, GREATEST[its]));
            for (int wrong : new int[] {LEAST[what] - 1, GREATEST[what] + 1, MIN, MAX}) {
                Twins.keeps(call + wrong + ")", Check.INVALID, Mills::busy, mill -> mill.set(its, wrong));
            }
            SeaMill mill = new SeaMill();
            mill.set(what, LEAST[what]);
            Check.due(call + "least) is set", LEAST[what], mill.count(20 + what));
            mill.set(what, GREATEST[what]);
            Check.due(call + "greatest) is set", GREATEST[what], mill.count(20 + what));
        }
    }

    private static void newObject() {
        Check.sentence("Promise 1: A new object", "Creates a mill without kinds, farmers and sacks, at the time 0.");
        SeaMill mill = new SeaMill();
        for (int what = 0; what <= 10; what++) {
            Check.due("count(" + what + ")", 0, mill.count(what));
        }
        int[] pond = {0, 0, 20, -20, 0, 0, Check.NOT_FOUND, 0, 0, 0, 0, 2, 1, 3, 0};
        for (int what = 0; what < pond.length; what++) {
            Check.due("pond(" + what + ")", pond[what], mill.pond(what));
        }
        Check.due("kindOf(0, 0)", Check.INVALID, mill.kindOf(0, 0));
        Check.due("farmerOf(0, 0)", Check.INVALID, mill.farmerOf(0, 0));
        Check.due("sackOf(0, 0)", Check.INVALID, mill.sackOf(0, 0));
        Check.due("queueAt(0)", Check.NOT_FOUND, mill.queueAt(0));
        Check.due("pledgeAt(0, 0)", Check.NOT_FOUND, mill.pledgeAt(0, 0));
        for (int what = 4; what <= 10; what++) {
            Check.due("account(-1, -1, " + what + ")", 0, mill.account(-1, -1, what));
        }
        SeaMill other = new SeaMill();
        other.farmer();
        other.pass(9);
        Check.due("another object has its own time", 0, mill.count(7));
        Check.due("another object has its own farmers", 0, mill.count(1));
    }

    private static void set() {
        Check.sentence("Promise 2: set", "`what`: 0 to 12");
        for (int what : new int[] {-1, 13, 20, MIN, MAX}) {
            Twins.keeps("set(" + what + ", 20)", Check.INVALID, Mills::busy, mill -> mill.set(what, 20));
        }
        Check.sentence("Promise 2: set", "Returns what it was");
        SeaMill mill = new SeaMill();
        Check.due("set(0, 10)", 100, mill.set(0, 10));
        Check.due("set(0, 1000)", 10, mill.set(0, 1000));
        Check.due("set(0, 1000)", 1000, mill.set(0, 1000));
        Check.due("set(12, 3)", 0, mill.set(12, 3));
        Check.due("set(12, 0)", 3, mill.set(12, 0));
        Twins.changes("set to what it is", 20, SeaMill::new, its -> its.set(1, 20));
        Check.sentence("Promise 2: set", "INVALID_ARGUMENT if an argument is out of range.");
        Twins.keeps("set(-1, -1)", Check.INVALID, Mills::busy, its -> its.set(-1, -1));
        Twins.keeps("set(13, 4)", Check.INVALID, Mills::busy, its -> its.set(13, 4));
    }

    private static void leak() {
        Check.sentence("Promise 3: leak", "`sluice`: 0 to 3");
        for (int sluice : new int[] {-1, 4, MIN, MAX}) {
            Twins.keeps("leak(" + sluice + ", 1)", Check.INVALID, Mills::busy, mill -> mill.leak(sluice, 1));
        }
        Check.sentence("Promise 3: leak", "`leak`: 0 to 20");
        for (int sluice = 0; sluice <= 3; sluice++) {
            int its = sluice;
            String call = "leak(" + sluice + ", ";
            Twins.changes(call + "0)", FIRST_LEAKS[sluice], SeaMill::new, mill -> mill.leak(its, 0));
            Twins.changes(call + "20)", FIRST_LEAKS[sluice], SeaMill::new, mill -> mill.leak(its, 20));
            for (int wrong : new int[] {-1, 21, MIN, MAX}) {
                Twins.keeps(call + wrong + ")", Check.INVALID, Mills::busy, mill -> mill.leak(its, wrong));
            }
        }
        Check.sentence("Promise 3: leak", "Returns what it was");
        SeaMill mill = new SeaMill();
        for (int sluice = 0; sluice <= 3; sluice++) {
            Check.due("leak(" + sluice + ", 20)", FIRST_LEAKS[sluice], mill.leak(sluice, 20));
            Check.due("pond(" + (11 + sluice) + ")", 20, mill.pond(11 + sluice));
            Check.due("leak(" + sluice + ", 0)", 20, mill.leak(sluice, 0));
            Check.due("pond(" + (11 + sluice) + ")", 0, mill.pond(11 + sluice));
        }
        Check.sentence("Promise 3: leak", "INVALID_ARGUMENT if an argument is out of range.");
        Twins.keeps("leak(4, 21)", Check.INVALID, Mills::busy, its -> its.leak(4, 21));
        Twins.keeps("leak(-1, -1)", Check.INVALID, Mills::busy, its -> its.leak(-1, -1));
    }

    private static void lock() {
        Check.sentence("Promise 4: lock", "`locked`: 1 or 0");
        Twins.changes("lock(0)", 0, SeaMill::new, mill -> mill.lock(0));
        Twins.changes("lock(1)", 0, SeaMill::new, mill -> mill.lock(1));
        Check.sentence("Promise 4: lock", "Returns 1 if it was locked, otherwise 0");
        SeaMill mill = new SeaMill();
        Check.due("lock(1), unlocked", 0, mill.lock(1));
        Check.due("pond(5)", 1, mill.pond(5));
        Check.due("lock(1), locked", 1, mill.lock(1));
        Check.due("lock(0), locked", 1, mill.lock(0));
        Check.due("pond(5)", 0, mill.pond(5));
        Check.due("lock(0), unlocked", 0, mill.lock(0));
        Check.sentence("Promise 4: lock", "INVALID_ARGUMENT if locked is neither.");
        for (int wrong : new int[] {-1, 2, MIN, MAX}) {
            Twins.keeps("lock(" + wrong + ")", Check.INVALID, Mills::busy, its -> its.lock(wrong));
            Twins.keeps("locked, lock(" + wrong + ")", Check.INVALID, SettingsSentences::locked, its -> its.lock(wrong));
        }
    }

    private static SeaMill locked() {
        SeaMill mill = Mills.busy();
        mill.lock(1);
        return mill;
    }

    private static void gate() {
        Check.sentence("Promise 5: gate", "`opening`: 0 to 3");
        for (int opening = 0; opening <= 3; opening++) {
            int its = opening;
            Twins.changes("gate(" + opening + ")", 0, SeaMill::new, mill -> mill.gate(its));
        }
        Check.sentence("Promise 5: gate", "Returns what it was");
        SeaMill mill = new SeaMill();
        Check.due("gate(3)", 0, mill.gate(3));
        Check.due("pond(4)", 3, mill.pond(4));
        Check.due("gate(3) again", 3, mill.gate(3));
        Check.due("gate(0)", 3, mill.gate(0));
        Check.due("pond(4)", 0, mill.pond(4));
        Check.due("gate(1)", 0, mill.gate(1));
        Check.due("gate(2)", 1, mill.gate(2));
        Check.sentence("Promise 5: gate", "INVALID_ARGUMENT if opening is out of range.");
        for (int wrong : new int[] {-1, 4, MIN, MAX}) {
            Twins.keeps("gate(" + wrong + ")", Check.INVALID, Mills::busy, its -> its.gate(wrong));
        }
    }
}
