/** Promises 1 to 5: a new object, set, leak, lock, gate. */
public final class SettingsTest {
    private static final int[] LEAST = {10, 0, 0, 0, 4, 0, 0, 0, 0, 0, 1, 1, 0};
    private static final int[] GREATEST = {1000, 100, 300, 100, 100, 200, 100, 2000, 50, 100, 60, 100, 3};
    private static final int[] FIRST = {100, 20, 100, 20, 50, 60, 10, 200, 10, 5, 10, 50, 0};
    private static final int[] LEAKS = {2, 1, 3, 0};

    private SettingsTest() {
    }

    public static void main(String[] arguments) {
        constants();
        newObject();
        set();
        leak();
        lock();
        gate();
        Check.end("SettingsTest");
    }

    private static void constants() {
        Check.due("INVALID_ARGUMENT", Check.INVALID, SeaMill.INVALID_ARGUMENT);
        Check.due("NOT_POSSIBLE", Check.NOT_POSSIBLE, SeaMill.NOT_POSSIBLE);
        Check.due("LIMIT_REACHED", Check.LIMIT, SeaMill.LIMIT_REACHED);
        Check.due("NOT_FOUND", Check.NOT_FOUND, SeaMill.NOT_FOUND);
    }

    private static void newObject() {
        SeaMill mill = new SeaMill();
        for (int what = 0; what <= 10; what++) {
            Check.due("new: count(" + what + ")", 0, mill.count(what));
        }
        for (int what = 0; what < FIRST.length; what++) {
            Check.due("new: count(" + (20 + what) + ")", FIRST[what], mill.count(20 + what));
        }
        int[] pond = {0, 0, 20, -20, 0, 0, Check.NOT_FOUND, 0, 0, 0, 0, 2, 1, 3, 0};
        for (int what = 0; what < pond.length; what++) {
            Check.due("new: pond(" + what + ")", pond[what], mill.pond(what));
        }
        Check.due("new: kindOf(0, 0)", Check.INVALID, mill.kindOf(0, 0));
        Check.due("new: farmerOf(0, 0)", Check.INVALID, mill.farmerOf(0, 0));
        Check.due("new: sackOf(0, 0)", Check.INVALID, mill.sackOf(0, 0));
        Check.due("new: queueAt(0)", Check.NOT_FOUND, mill.queueAt(0));
        Check.due("new: account(-1, -1, 2)", 0, mill.account(-1, -1, 2));
        Check.due("new: pledgeAt(0, 0)", Check.NOT_FOUND, mill.pledgeAt(0, 0));
        Check.due("new: fault(0)", Check.NOT_FOUND, mill.fault(0));
        Check.due("new: undo()", Check.NOT_POSSIBLE, mill.undo());
    }

    private static void set() {
        for (int what = 0; what < FIRST.length; what++) {
            SeaMill mill = new SeaMill();
            String call = "set(" + what + ", ..)";
            Check.due(call + " below the least", Check.INVALID, mill.set(what, LEAST[what] - 1));
            Check.due(call + " above the greatest", Check.INVALID, mill.set(what, GREATEST[what] + 1));
            Check.due(call + " by far too small", Check.INVALID, mill.set(what, Integer.MIN_VALUE));
            Check.due(call + " by far too great", Check.INVALID, mill.set(what, Integer.MAX_VALUE));
            Check.due(call + " refused: kept", FIRST[what], mill.count(20 + what));
            Check.due(call + " refused: no change", 0, mill.count(9));
            Check.due(call + " least", FIRST[what], mill.set(what, LEAST[what]));
            Check.due(call + " least is set", LEAST[what], mill.count(20 + what));
            Check.due(call + " greatest", LEAST[what], mill.set(what, GREATEST[what]));
            Check.due(call + " greatest is set", GREATEST[what], mill.count(20 + what));
            Check.due(call + " same again", GREATEST[what], mill.set(what, GREATEST[what]));
            Check.due(call + " changes", 3, mill.count(9));
            for (int other = 0; other < FIRST.length; other++) {
                if (other != what) {
                    Check.due(call + " leaves " + other, FIRST[other], mill.count(20 + other));
                }
            }
        }
        SeaMill mill = new SeaMill();
        Check.due("set(-1, 20)", Check.INVALID, mill.set(-1, 20));
        Check.due("set(13, 20)", Check.INVALID, mill.set(13, 20));
        Check.due("set(MAX, 20)", Check.INVALID, mill.set(Integer.MAX_VALUE, 20));
        Check.due("set(MIN, 20)", Check.INVALID, mill.set(Integer.MIN_VALUE, 20));
    }

    private static void leak() {
        for (int sluice = 0; sluice < 4; sluice++) {
            SeaMill mill = new SeaMill();
            String call = "leak(" + sluice + ", ..)";
            Check.due(call + " -1", Check.INVALID, mill.leak(sluice, -1));
            Check.due(call + " 21", Check.INVALID, mill.leak(sluice, 21));
            Check.due(call + " refused: kept", LEAKS[sluice], mill.pond(11 + sluice));
            Check.due(call + " refused: no change", 0, mill.count(9));
            Check.due(call + " 20", LEAKS[sluice], mill.leak(sluice, 20));
            Check.due(call + " 20 is set", 20, mill.pond(11 + sluice));
            Check.due(call + " 0", 20, mill.leak(sluice, 0));
            Check.due(call + " 0 is set", 0, mill.pond(11 + sluice));
            Check.due(call + " changes", 2, mill.count(9));
            for (int other = 0; other < 4; other++) {
                if (other != sluice) {
                    Check.due(call + " leaves " + other, LEAKS[other], mill.pond(11 + other));
                }
            }
        }
        SeaMill mill = new SeaMill();
        Check.due("leak(-1, 1)", Check.INVALID, mill.leak(-1, 1));
        Check.due("leak(4, 1)", Check.INVALID, mill.leak(4, 1));
        Check.due("leak(MAX, 1)", Check.INVALID, mill.leak(Integer.MAX_VALUE, 1));
    }

    private static void lock() {
        SeaMill mill = new SeaMill();
        Check.due("lock(0) at first", 0, mill.lock(0));
        Check.due("lock(1)", 0, mill.lock(1));
        Check.due("locked", 1, mill.pond(5));
        Check.due("lock(1) again", 1, mill.lock(1));
        Check.due("lock(2)", Check.INVALID, mill.lock(2));
        Check.due("lock(-1)", Check.INVALID, mill.lock(-1));
        Check.due("still locked", 1, mill.pond(5));
        Check.due("changes", 3, mill.count(9));
        mill.pass(5);
        Check.due("nothing flows in", 0, mill.pond(7));
        Check.due("lock(0)", 1, mill.lock(0));
        Check.due("unlocked", 0, mill.pond(5));
        mill.pass(1);
        Check.due("flows in", 60 * (20 + 120 * 6 / 25), mill.pond(7));
    }

    private static void gate() {
        SeaMill mill = new SeaMill();
        Check.due("gate(3)", 0, mill.gate(3));
        Check.due("opening", 3, mill.pond(4));
        Check.due("gate(4)", Check.INVALID, mill.gate(4));
        Check.due("gate(-1)", Check.INVALID, mill.gate(-1));
        Check.due("gate(MIN)", Check.INVALID, mill.gate(Integer.MIN_VALUE));
        Check.due("opening is kept", 3, mill.pond(4));
        Check.due("changes", 1, mill.count(9));
        Check.due("gate(1)", 3, mill.gate(1));
        Check.due("gate(0)", 1, mill.gate(0));
        Check.due("gate(0) again", 0, mill.gate(0));
        Check.due("closed", 0, mill.pond(4));
    }
}
