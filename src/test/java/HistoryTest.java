/** Promises 27 and 28: count, undo; and what the calls record in the history. */
public final class HistoryTest {
    private HistoryTest() {
    }

    public static void main(String[] arguments) {
        count();
        changes();
        noChanges();
        limit();
        againAfterUndo();
        undoOfSteps();
        undoOfPledges();
        Check.end("HistoryTest");
    }

    private static void count() {
        SeaMill mill = Check.fastMill(100);
        int[] wrong = {-1, 11, 19, 33, Integer.MIN_VALUE, Integer.MAX_VALUE};
        for (int what : wrong) {
            Check.due("count(" + what + ")", Check.INVALID, mill.count(what));
        }
        mill.kind(2, 0, 1);
        mill.farmer();
        mill.farmer();
        for (int i = 0; i < 7; i++) {
            mill.bring(0, 0, 60);
        }
        mill.withdraw(6);
        mill.pass(3);
        mill.fetch(0);
        mill.pledge(1, 5);
        mill.bring(0, 0, 160);
        mill.set(12, 1);
        mill.withdraw(3);
        mill.withdraw(4);
        mill.withdraw(5);
        mill.pass(1);
        mill.pass(188);
        mill.bring(0, 0, 9);
        Check.type(mill, "g1;f");
        int[] its = {2, 3, 9, 1, 3, 5, 1, 193, 2, 4, 4};
        for (int what = 0; what < its.length; what++) {
            Check.due("count(" + what + ")", its[what], mill.count(what));
        }
        int[] settings = {10, 0, 0, 0, 50, 60, 0, 0, 10, 5, 10, 50, 1};
        for (int what = 0; what < settings.length; what++) {
            Check.due("count(" + (20 + what) + ")", settings[what], mill.count(20 + what));
        }
        mill.pass(1);
        mill.bring(0, 0, 160);
        mill.pass(1);
        Check.due("one on the stones is none of them", 0, mill.count(3));
        Check.due("ground, not fetched", 4, mill.count(4));
        Check.due("fetched", 5, mill.count(5));
    }

    /** Makes one change of every kind, and looks whether it is recorded and undone. */
    private static void changes() {
        for (int call = 0; call < 14; call++) {
            SeaMill mill = Check.fastMill(100);
            mill.bring(0, 0, 50);
            mill.bring(0, 0, 50);
            mill.bring(0, 0, 50);
            for (int i = 0; i < 4; i++) {
                mill.lock(0);
            }
            for (int i = 0; i < 4; i++) {
                mill.undo();
            }
            mill.pass(2);
            mill.pledge(1, 9);
            mill.lock(0);
            Check.type(mill, "b0,0,7;");
            int[] before = everything(mill);
            int answer = change(mill, call);
            Check.due("change " + call + " answers no error", 1, answer >= 0 ? 1 : 0);
            Check.due("change " + call + " is recorded", 4, mill.count(9));
            Check.due("change " + call + " is undone", 3, mill.undo());
            same("change " + call, before, everything(mill));
            Check.due("change " + call + " leaves the text", 7, mill.count(10));
            Check.due("change " + call + " leaves the order", 1, mill.play());
        }
    }

    private static int change(SeaMill mill, int call) {
        switch (call) {
            case 0:
                return mill.kind(1, 2, 3);
            case 1:
                return mill.farmer();
            case 2:
                return mill.set(3, 4);
            case 3:
                return mill.leak(2, 8);
            case 4:
                return mill.lock(1);
            case 5:
                return mill.gate(3);
            case 6:
                return mill.bring(0, 0, 33);
            case 7:
                return mill.withdraw(2);
            case 8:
                return mill.fetch(0);
            case 9:
                return mill.earn(0, 77);
            case 10:
                return mill.pledge(0, 6);
            case 11:
                return mill.redeem(1);
            case 12:
                return mill.pass(200);
            default:
                return mill.play();
        }
    }

    /** What a mill with a few sacks tells. */
    private static int[] everything(SeaMill mill) {
        int[] all = new int[107];
        int next = 0;
        for (int what = 0; what <= 9; what++) {
            all[next++] = mill.count(what);
        }
        for (int what = 20; what <= 32; what++) {
            all[next++] = mill.count(what);
        }
        for (int what = 0; what <= 14; what++) {
            all[next++] = mill.pond(what);
        }
        for (int what = 0; what <= 5; what++) {
            all[next++] = mill.farmerOf(0, what);
            all[next++] = mill.kindOf(0, what);
        }
        for (int sack = 0; sack < 4; sack++) {
            for (int what = 0; what <= 11; what++) {
                all[next++] = mill.sackOf(sack, what);
            }
        }
        for (int what = 0; what <= 4; what++) {
            all[next++] = mill.pledgeAt(0, what);
        }
        all[next++] = mill.kindOf(1, 0);
        all[next++] = mill.farmerOf(1, 0);
        all[next++] = mill.seaIn(7);
        all[next++] = mill.queueAt(0);
        return all;
    }

    private static void same(String name, int[] before, int[] after) {
        for (int i = 0; i < before.length; i++) {
            Check.due(name + ": value " + i, before[i], after[i]);
        }
    }

    /** Errors, questions and the text are no changes. */
    private static void noChanges() {
        SeaMill mill = new SeaMill();
        mill.kind(1, 0, 1);
        mill.farmer();
        mill.bring(0, 0, 7);
        Check.type(mill, "g4;");
        mill.set(0, 0);
        mill.leak(4, 0);
        mill.lock(2);
        mill.gate(4);
        mill.kind(0, 0, 0);
        mill.bring(1, 0, 7);
        mill.withdraw(1);
        mill.fetch(0);
        mill.earn(0, 0);
        mill.pledge(0, 1);
        mill.redeem(0);
        mill.pass(0);
        mill.play();
        mill.foresee(0);
        mill.bestGate(5);
        mill.seaIn(5);
        mill.nextHigh();
        mill.owed(0);
        mill.fault(0);
        mill.clearText();
        Check.due("states", 3, mill.count(9));
        Check.due("undo()", 2, mill.undo());
        Check.due("the latest change was bring", 0, mill.count(2));
        Check.due("the text is not restored", 0, mill.count(10));
    }

    private static void limit() {
        SeaMill mill = new SeaMill();
        Check.due("undo() at first", Check.NOT_POSSIBLE, mill.undo());
        for (int rise = 1; rise <= 7; rise++) {
            mill.set(2, rise);
            Check.due("states after " + rise, Math.min(rise, 4), mill.count(9));
        }
        for (int left = 3; left >= 0; left--) {
            Check.due("undo()", left, mill.undo());
            Check.due("the rise again", 3 + left, mill.count(22));
            Check.due("states", left, mill.count(9));
        }
        Check.due("undo() at last", Check.NOT_POSSIBLE, mill.undo());
        Check.due("nothing was changed", 3, mill.count(22));
    }

    private static void againAfterUndo() {
        SeaMill mill = new SeaMill();
        mill.kind(1, 0, 1);
        mill.kind(2, 20, 5);
        mill.undo();
        Check.due("kind 1 once more", 1, mill.kind(3, 4, 6));
        Check.due("it is another kind", 3, mill.kindOf(1, 0));
        mill.farmer();
        mill.bring(0, 1, 50);
        mill.withdraw(0);
        mill.undo();
        mill.undo();
        Check.due("sack 0 once more", 0, mill.bring(0, 0, 20));
        int[] its = {0, 0, 20, 0, 20, 0, 0, 0, 0, 0, 0, 0};
        for (int what = 0; what <= 11; what++) {
            Check.due("sackOf(0, " + what + ")", its[what], mill.sackOf(0, what));
        }
        mill.earn(0, 9);
        mill.undo();
        mill.undo();
        mill.undo();
        Check.due("farmer 0 once more", 0, mill.farmer());
        Check.due("an empty purse", 0, mill.farmerOf(0, 0));
        mill.set(1, 1);
        mill.set(1, 2);
        mill.undo();
        mill.set(1, 3);
        mill.set(1, 4);
        Check.due("undo()", 3, mill.undo());
        Check.due("set to 3", 3, mill.count(21));
        Check.due("undo()", 2, mill.undo());
        Check.due("set to 1", 1, mill.count(21));
        Check.due("undo()", 1, mill.undo());
        Check.due("as at first", 20, mill.count(21));
    }

    private static void undoOfSteps() {
        SeaMill mill = Check.fastMill(1);
        mill.farmer();
        mill.kind(9, 0, 1);
        mill.bring(0, 1, 150);
        mill.bring(1, 0, 50);
        mill.bring(0, 0, 60);
        mill.gate(3);
        mill.set(12, 2);
        mill.pass(4);
        Check.due("on the stones", 0, mill.pond(6));
        mill.pass(1);
        Check.due("left the stones", Check.NOT_FOUND, mill.pond(6));
        Check.due("first of the queue", 1, mill.queueAt(0));
        mill.undo();
        Check.due("on the stones again", 0, mill.pond(6));
        Check.due("grain again", 18, mill.sackOf(0, 4));
        Check.due("ground again", 132, mill.pond(10));
        mill.undo();
        Check.due("waiting again", 0, mill.sackOf(0, 3));
        Check.due("no turn any more", 0, mill.farmerOf(0, 2));
        mill.set(12, 3);
        Check.due("no kind was the last one", 1, mill.queueAt(0));
        mill.set(8, 50);
        mill.set(12, 0);
        mill.pass(5);
        Check.due("the toll of this time", 75, mill.sackOf(0, 6));
    }

    private static void undoOfPledges() {
        SeaMill mill = Check.fastMill(100);
        mill.set(10, 1);
        mill.bring(0, 0, 100);
        mill.pass(1);
        mill.pledge(0, 40);
        mill.pass(200);
        Check.due("fallen", 40, mill.sackOf(0, 9));
        mill.undo();
        Check.due("not fallen any more", 0, mill.sackOf(0, 9));
        Check.due("in pledge again", 40, mill.sackOf(0, 8));
        Check.due("owed again", 2000, mill.owed(0));
        mill.redeem(0);
        Check.due("the purse is empty", 0, mill.farmerOf(0, 0));
        mill.undo();
        Check.due("the loan again", 2000, mill.farmerOf(0, 0));
        mill.undo();
        Check.due("no loan", 0, mill.farmerOf(0, 0));
        Check.due("no pledge", Check.NOT_FOUND, mill.pledgeAt(0, 0));
    }
}
