/** The boundary cases of "Changes and errors", and promises 27 and 28. */
final class ChangeSentences {
    private static final String CHANGES = "Changes and errors";
    private static final int MIN = Integer.MIN_VALUE;
    private static final int MAX = Integer.MAX_VALUE;

    private ChangeSentences() {
    }

    static void all() {
        changes();
        noChanges();
        fourStates();
        allButTheText();
        errorsInOrder();
        errorsInOrderAtLimits();
        refusedCalls();
        noSuchNumber();
        numbersUndone();
        constants();
        count();
        undo();
        undoOfNothing();
        undoThenAnew();
    }

    private static void changes() {
        Check.sentence(CHANGES, "The changes are the calls of kind, farmer, set, leak, lock, gate, bring, withdraw, fetch, "
            + "earn, pledge, redeem, pass and play that return no error.");
        Twins.changes("kind", 2, Mills::busy, mill -> mill.kind(3, 4, 5));
        Twins.changes("farmer", 3, Mills::busy, SeaMill::farmer);
        Twins.changes("set", 0, Mills::busy, mill -> mill.set(1, 9));
        Twins.changes("leak", 0, Mills::busy, mill -> mill.leak(2, 1));
        Twins.changes("lock", 0, Mills::busy, mill -> mill.lock(1));
        Twins.changes("gate", 1, Mills::busy, mill -> mill.gate(3));
        Twins.changes("bring", 8, Mills::busy, mill -> mill.bring(1, 1, 11));
        Twins.changes("withdraw", 20, Mills::busy, mill -> mill.withdraw(5));
        Twins.changes("fetch", 24, Mills::busy, mill -> mill.fetch(2));
        Twins.changes("earn", 590, Mills::busy, mill -> mill.earn(0, 90));
        Twins.changes("pledge", 1500, Mills::busy, mill -> mill.pledge(2, 3));
        Twins.changes("redeem", 0, Mills::busy, mill -> mill.redeem(1));
        Twins.changes("pass", 396, Mills::busy, mill -> mill.pass(200));
        Twins.changes("play", 3, ChangeSentences::busyWithOrders, SeaMill::play);
        // changes that leave everything as it was
        Twins.changes("set to what it is", 10, Mills::busy, mill -> mill.set(8, 10));
        Twins.changes("leak to what it is", 0, Mills::busy, mill -> mill.leak(2, 0));
        Twins.changes("lock as it is", 0, Mills::busy, mill -> mill.lock(0));
        Twins.changes("gate as it is", 1, Mills::busy, mill -> mill.gate(1));
    }

    private static SeaMill busyWithOrders() {
        SeaMill mill = Mills.busy();
        mill.clearText();
        return Mills.withText(mill, "f2;r1;b2,0,5;");
    }

    private static void noChanges() {
        Check.sentence(CHANGES, "The changes are the calls of");
        SeaMill mill = new SeaMill();
        mill.kind(1, 0, 1);
        mill.farmer();
        mill.bring(0, 0, 9);
        mill.type('g');
        Check.due("type", 3, mill.count(9));
        mill.clearText();
        Check.due("clearText", 3, mill.count(9));
        Check.due("undo", 2, mill.undo());
        Check.due("undo is none", 2, mill.count(9));
        mill.kindOf(0, 0);
        mill.farmerOf(0, 0);
        mill.account(-1, -1, 2);
        mill.queueAt(0);
        mill.pledgeAt(0, 0);
        mill.seaIn(9);
        mill.nextHigh();
        mill.pond(0);
        mill.bestGate(9);
        mill.count(0);
        mill.fault(0);
        Check.due("questions are none", 2, mill.count(9));
    }

    private static void fourStates() {
        Check.sentence(CHANGES, "A history of at most 4 states is kept");
        SeaMill mill = new SeaMill();
        int[] states = {1, 2, 3, 4, 4, 4, 4, 4, 4, 4, 4};
        for (int change = 0; change < states.length; change++) {
            mill.set(1, change);
            Check.due("after change " + change, states[change], mill.count(9));
        }
        Check.sentence(CHANGES, "and if there are 5 states then, the oldest one is dropped.");
        for (int changes = 1; changes <= 12; changes++) {
            mill = new SeaMill();
            for (int change = 1; change <= changes; change++) {
                mill.set(1, change);
            }
            int left = Math.min(changes, 4);
            for (int undone = 1; undone <= Math.min(changes, 4); undone++) {
                left--;
                Check.due(changes + " changes, undo() " + undone, left, mill.undo());
                Check.due("the low water then", changes == undone ? 20 : changes - undone, mill.count(21));
            }
            Check.due(changes + " changes, one undo() more", Check.NOT_POSSIBLE, mill.undo());
        }
    }

    private static void allButTheText() {
        Check.sentence(CHANGES, "each change records everything before it but the text");
        SeaMill mill = Mills.withText(new SeaMill(), "g1;");
        mill.set(1, 5);
        Check.type(mill, "g4;");
        mill.undo();
        Check.due("what was typed after the change stays", 6, mill.count(10));
        Check.due("the fault of it", 3, mill.fault(0));
        mill.set(1, 5);
        mill.clearText();
        mill.undo();
        Check.due("what was cleared after the change does not come again", 0, mill.count(10));
        Check.due("the low water comes again", 20, mill.count(21));
        // everything else, whatever the change is that comes after it
        Twins.Maker[] makers = {Mills::busy, ChangeSentences::busyWithOrders, Mills::full, ChangeSentences::secondPledges,
            Mills::tidal, Mills::byKinds};
        for (Twins.Maker maker : makers) {
            Twins.changes("pass(4)", maker.make().count(7) + 4, maker, its -> its.pass(4));
            Twins.changes("pass(200)", maker.make().count(7) + 200, maker, its -> its.pass(200));
            Twins.changes("earn(0, 1)", maker.make().farmerOf(0, 0) + 1, maker, its -> its.earn(0, 1));
        }
    }

    /** The busy mill with the pledges 0, 1 and 2 renewed, with other pounds and days. */
    private static SeaMill secondPledges() {
        SeaMill mill = Mills.busy();
        mill.earn(0, 1000);
        mill.redeem(0);
        mill.redeem(1);
        mill.set(10, 2);
        mill.pledge(0, 3);
        mill.pledge(1, 4);
        mill.pledge(2, 6);
        mill.set(12, 2);
        return mill;
    }

    private static void errorsInOrder() {
        Check.sentence(CHANGES, "If several errors apply to a call, INVALID_ARGUMENT is returned rather than NOT_POSSIBLE");
        Check.due("earn(1, 8), not possible for farmer 0", Check.INVALID, Mills.rich(7).earn(1, 8));
        Check.due("earn(0, 1000000001), full", Check.INVALID, Mills.rich(0).earn(0, 1000000001));
        Check.due("earn(0, MAX), full", Check.INVALID, Mills.rich(0).earn(0, MAX));
        SeaMill mill = Mills.busy();
        int[] sacks = {0, 3, 4, 5, 7};
        for (int sack : sacks) {
            Check.due("pledge(" + sack + ", 0)", Check.INVALID, mill.pledge(sack, 0));
            Check.due("pledge(" + sack + ", 201)", Check.INVALID, mill.pledge(sack, 201));
        }
        Check.due("withdraw(8)", Check.INVALID, mill.withdraw(8));
        Check.due("fetch(8)", Check.INVALID, mill.fetch(8));
        Check.due("redeem(8)", Check.INVALID, mill.redeem(8));
        Check.due("foresee(8)", Check.INVALID, mill.foresee(8));
        Check.sentence(CHANGES, "and LIMIT_REACHED rather than NOT_FOUND.");
        Check.due("sackOf(0, 12), not waiting", Check.INVALID, mill.sackOf(0, 12));
        Check.due("sackOf(8, 11)", Check.INVALID, mill.sackOf(8, 11));
        Check.due("pledgeAt(2, 5) of 2", Check.INVALID, mill.pledgeAt(2, 5));
        Check.due("pledgeAt(-1, 0)", Check.INVALID, mill.pledgeAt(-1, 0));
        Check.due("owed(8)", Check.INVALID, mill.owed(8));
        mill = new SeaMill();
        Check.due("queueAt(-1), none waits", Check.INVALID, mill.queueAt(-1));
        Check.due("pledgeAt(-1, 0), none", Check.INVALID, mill.pledgeAt(-1, 0));
        Check.due("fault(2), no fault", Check.INVALID, mill.fault(2));
        Check.due("owed(0), no sack", Check.INVALID, mill.owed(0));
        mill = Mills.busy();
        mill.gate(0);
        Check.due("foresee(2), ground, and nothing will be ground", Check.NOT_POSSIBLE, mill.foresee(2));
        Check.due("foresee(3), fetched, and nothing will be ground", Check.NOT_POSSIBLE, mill.foresee(3));
    }

    private static void errorsInOrderAtLimits() {
        Check.sentence(CHANGES, "NOT_POSSIBLE rather than LIMIT_REACHED");
        Twins.keeps("kind(0, 0, 1), 6 kinds", Check.INVALID, Mills::full, mill -> mill.kind(0, 0, 1));
        Twins.keeps("kind(1, 21, 1), 6 kinds", Check.INVALID, Mills::full, mill -> mill.kind(1, 21, 1));
        Twins.keeps("kind(1, 0, 0), 6 kinds", Check.INVALID, Mills::full, mill -> mill.kind(1, 0, 0));
        Twins.keeps("bring(8, 0, 1), 24 sacks", Check.INVALID, Mills::full, mill -> mill.bring(8, 0, 1));
        Twins.keeps("bring(0, 6, 1), 24 sacks", Check.INVALID, Mills::full, mill -> mill.bring(0, 6, 1));
        Twins.keeps("bring(0, 0, 0), 24 sacks", Check.INVALID, Mills::full, mill -> mill.bring(0, 0, 0));
        Twins.keeps("bring(0, 0, 201), 24 sacks", Check.INVALID, Mills::full, mill -> mill.bring(0, 0, 201));
        Twins.keeps("pass(0) at 10000", Check.INVALID, () -> Mills.at(10000), mill -> mill.pass(0));
        Twins.keeps("pass(201) at 10000", Check.INVALID, () -> Mills.at(10000), mill -> mill.pass(201));
        Twins.keeps("pass(MAX) at 10000", Check.INVALID, () -> Mills.at(10000), mill -> mill.pass(MAX));
        Twins.keeps("type(31), 60 characters", Check.INVALID, Mills::fullText, mill -> mill.type(31));
    }

    private static void refusedCalls() {
        Check.sentence(CHANGES, "A call that returns an error changes nothing.");
        String name = "of a new mill";
        Twins.keeps("set(0, 9) " + name, Check.INVALID, SeaMill::new, mill -> mill.set(0, 9));
        Twins.keeps("leak(0, 21) " + name, Check.INVALID, SeaMill::new, mill -> mill.leak(0, 21));
        Twins.keeps("lock(2) " + name, Check.INVALID, SeaMill::new, mill -> mill.lock(2));
        Twins.keeps("gate(4) " + name, Check.INVALID, SeaMill::new, mill -> mill.gate(4));
        Twins.keeps("kind(0, 0, 1) " + name, Check.INVALID, SeaMill::new, mill -> mill.kind(0, 0, 1));
        Twins.keeps("bring(0, 0, 1) " + name, Check.INVALID, SeaMill::new, mill -> mill.bring(0, 0, 1));
        Twins.keeps("withdraw(0) " + name, Check.INVALID, SeaMill::new, mill -> mill.withdraw(0));
        Twins.keeps("fetch(0) " + name, Check.INVALID, SeaMill::new, mill -> mill.fetch(0));
        Twins.keeps("earn(0, 1) " + name, Check.INVALID, SeaMill::new, mill -> mill.earn(0, 1));
        Twins.keeps("pledge(0, 1) " + name, Check.INVALID, SeaMill::new, mill -> mill.pledge(0, 1));
        Twins.keeps("redeem(0) " + name, Check.INVALID, SeaMill::new, mill -> mill.redeem(0));
        Twins.keeps("pass(0) " + name, Check.INVALID, SeaMill::new, mill -> mill.pass(0));
        Twins.keeps("undo() " + name, Check.NOT_POSSIBLE, SeaMill::new, SeaMill::undo);
        Twins.keeps("type(31) " + name, Check.INVALID, SeaMill::new, mill -> mill.type(31));
        Twins.keeps("play() of g2;r0;", Check.NOT_POSSIBLE, Mills::busy, SeaMill::play);
        Twins.keeps("many of them", Check.NOT_POSSIBLE, Mills::busy, ChangeSentences::manyErrors);
    }

    /** More refused calls than there are states in the history. */
    private static int manyErrors(SeaMill mill) {
        for (int i = 0; i < 6; i++) {
            mill.set(13, 0);
            mill.kind(0, 0, 0);
            mill.bring(3, 0, 1);
            mill.fetch(0);
            mill.withdraw(4);
            mill.pledge(2, 25);
            mill.pass(201);
            mill.play();
            mill.type(127);
        }
        return mill.redeem(0);
    }

    private static void noSuchNumber() {
        Check.sentence(CHANGES, "If there is no kind, farmer or sack with a certain number, this is INVALID_ARGUMENT.");
        for (int number : new int[] {0, -1, 1, MIN, MAX}) {
            SeaMill mill = new SeaMill();
            String name = " of number " + number;
            Check.due("kindOf" + name, Check.INVALID, mill.kindOf(number, 0));
            Check.due("farmerOf" + name, Check.INVALID, mill.farmerOf(number, 0));
            Check.due("sackOf" + name, Check.INVALID, mill.sackOf(number, 0));
            Check.due("withdraw" + name, Check.INVALID, mill.withdraw(number));
            Check.due("fetch" + name, Check.INVALID, mill.fetch(number));
            Check.due("earn" + name, Check.INVALID, mill.earn(number, 1));
            Check.due("pledge" + name, Check.INVALID, mill.pledge(number, 1));
            Check.due("owed" + name, Check.INVALID, mill.owed(number));
            Check.due("redeem" + name, Check.INVALID, mill.redeem(number));
            Check.due("foresee" + name, Check.INVALID, mill.foresee(number));
            Check.due("bring" + name, Check.INVALID, mill.bring(number, number, 1));
            int all = number == -1 ? 0 : Check.INVALID;
            Check.due("account of farmer" + name, all, mill.account(number, -1, 2));
            Check.due("account of kind" + name, all, mill.account(-1, number, 2));
        }
    }

    private static void numbersUndone() {
        Check.sentence(CHANGES, "If there is no kind, farmer or sack with a certain number, this is INVALID_ARGUMENT.");
        SeaMill mill = new SeaMill();
        mill.kind(1, 0, 1);
        mill.farmer();
        mill.bring(0, 0, 9);
        mill.undo();
        Check.due("the sack is undone", Check.INVALID, mill.sackOf(0, 0));
        Check.due("the sack is undone", Check.INVALID, mill.withdraw(0));
        mill.undo();
        Check.due("the farmer is undone", Check.INVALID, mill.earn(0, 1));
        Check.due("the farmer is undone", Check.INVALID, mill.account(0, -1, 2));
        mill.undo();
        Check.due("the kind is undone", Check.INVALID, mill.kindOf(0, 0));
        Check.due("the kind is undone", Check.INVALID, mill.account(-1, 0, 2));
    }

    private static void constants() {
        Check.sentence(CHANGES, "`INVALID_ARGUMENT = -1000001`: An argument is out of its range, or there is no such kind, "
            + "farmer or sack.");
        Check.due("INVALID_ARGUMENT", -1000001, SeaMill.INVALID_ARGUMENT);
        Check.sentence(CHANGES, "`NOT_POSSIBLE = -1000002`: The call is not possible in the present state.");
        Check.due("NOT_POSSIBLE", -1000002, SeaMill.NOT_POSSIBLE);
        Check.sentence(CHANGES, "`LIMIT_REACHED = -1000003`: A fixed limit has been reached.");
        Check.due("LIMIT_REACHED", -1000003, SeaMill.LIMIT_REACHED);
        Check.sentence(CHANGES, "`NOT_FOUND = -1000004`: There is no such value.");
        Check.due("NOT_FOUND", -1000004, SeaMill.NOT_FOUND);
    }

    private static void count() {
        String heading = "Promise 27: count";
        Check.sentence(heading, "Returns the number");
        Check.sentence(heading, "`what`: 0: kinds; 1: farmers; 2: sacks; 3: those that are waiting; 4: those that are "
            + "ground, not fetched; 5: those that are fetched; 6: pledges; 7: the time; 8: the day; 9: states in the "
            + "history; 10: the length of the text; 20 to 32: the settings 0 to 12");
        int[] its = {2, 3, 8, 2, 3, 2, 2, 196, 2, 4, 6};
        int[] settings = {10, 0, 0, 0, 50, 60, 0, 0, 10, 5, 1, 50, 0};
        for (int what = 0; what <= 10; what++) {
            int which = what;
            Twins.keeps("count(" + what + ")", its[what], Mills::busy, mill -> mill.count(which));
        }
        for (int what = 0; what <= 12; what++) {
            int which = 20 + what;
            Twins.keeps("count(" + which + ")", settings[what], Mills::busy, mill -> mill.count(which));
        }
        int[] full = {6, 8, 24, 24, 0, 0, 0, 0, 0, 4, 0};
        for (int what = 0; what <= 10; what++) {
            Check.due("full: count(" + what + ")", full[what], Mills.full().count(what));
        }
        Check.due("60 characters: count(10)", 60, Mills.fullText().count(10));
        Check.due("count(7), the last time", 10000, Mills.at(10000).count(7));
        Check.sentence(heading, "INVALID_ARGUMENT if what is out of range.");
        for (int wrong : new int[] {-1, 11, 15, 19, 33, MIN, MAX}) {
            Twins.keeps("count(" + wrong + ")", Check.INVALID, Mills::busy, mill -> mill.count(wrong));
        }
    }

    private static void undo() {
        String heading = "Promise 28: undo";
        Check.sentence(heading, "Restores the latest state of the history, which is removed from it.");
        SeaMill mill = Mills.busy();
        mill.undo();
        Check.due("earn is undone", 2500, mill.farmerOf(2, 0));
        Check.due("pledge is not", 7, mill.sackOf(1, 8));
        mill.undo();
        Check.due("pledge is undone", 0, mill.sackOf(1, 8));
        Check.due("gate is not", 1, mill.pond(4));
        mill.undo();
        Check.due("gate is undone", 0, mill.pond(4));
        Check.due("pass is not", 196, mill.count(7));
        mill.undo();
        Check.due("pass is undone", 6, mill.count(7));
        Check.due("nothing has fallen any more", 5, mill.sackOf(2, 8));
        Check.sentence(heading, "Returns the number of states that are left in the history");
        mill = Mills.busy();
        for (int left = 3; left >= 0; left--) {
            Check.due("undo()", left, mill.undo());
            Check.due("count(9)", left, mill.count(9));
        }
    }

    private static void undoOfNothing() {
        Check.sentence("Promise 28: undo", "NOT_POSSIBLE if it is empty.");
        Twins.keeps("undo() of a new mill", Check.NOT_POSSIBLE, SeaMill::new, SeaMill::undo);
        Twins.keeps("undo() of all", Check.NOT_POSSIBLE, ChangeSentences::allUndone, SeaMill::undo);
        SeaMill mill = allUndone();
        mill.undo();
        mill.earn(0, 1);
        Check.due("undo() after a change", 0, mill.undo());
        Check.due("undo() once more", Check.NOT_POSSIBLE, mill.undo());
    }

    private static SeaMill allUndone() {
        SeaMill mill = Mills.busy();
        for (int i = 0; i < 4; i++) {
            mill.undo();
        }
        return mill;
    }

    private static void undoThenAnew() {
        Check.sentence("Promise 28: undo", "which is removed from it.");
        SeaMill mill = new SeaMill();
        mill.set(1, 1);
        mill.set(1, 2);
        mill.set(1, 3);
        mill.undo();
        mill.undo();
        mill.set(1, 4);
        mill.set(1, 5);
        mill.set(1, 6);
        mill.set(1, 7);
        int[] lows = {6, 5, 4, 1};
        for (int low : lows) {
            mill.undo();
            Check.due("the low water", low, mill.count(21));
        }
        Check.due("the oldest one was dropped", Check.NOT_POSSIBLE, mill.undo());
    }
}
