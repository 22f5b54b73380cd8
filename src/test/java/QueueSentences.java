/** The boundary cases of the queue, in "Grain", and promise 14. */
final class QueueSentences {
    private static final String GRAIN = "Grain";
    private static final int RULE = 12;

    private QueueSentences() {
    }

    static void all() {
        byNumbers();
        byPounds();
        byFarmers();
        byKinds();
        queueAt();
    }

    private static void queueIs(String name, SeaMill mill, int... sacks) {
        for (int place = 0; place < sacks.length; place++) {
            Check.due(name + ": queueAt(" + place + ")", sacks[place], mill.queueAt(place));
            Check.due(name + ": sackOf(" + sacks[place] + ", 11)", place, mill.sackOf(sacks[place], 11));
        }
        Check.due(name + ": queueAt(" + sacks.length + ")", Check.NOT_FOUND, mill.queueAt(sacks.length));
        Check.due(name + ": count(3)", sacks.length, mill.count(3));
    }

    /** The next step brings this one on the stones, and it is ground at once. */
    private static void nextIs(String name, SeaMill mill, int sack) {
        mill.pass(1);
        Check.due(name + ": stage of sack " + sack, 2, mill.sackOf(sack, 3));
    }

    private static void byNumbers() {
        Check.sentence(GRAIN, "The queue of the sacks that are waiting is in order by the rule: 0 by numbers");
        SeaMill mill = Check.fastMill(1);
        queueIs("empty", mill);
        mill.bring(0, 0, 9);
        queueIs("one", mill, 0);
        mill.bring(0, 0, 5);
        mill.bring(0, 0, 101);
        queueIs("three", mill, 0, 1, 2);
        mill.withdraw(1);
        queueIs("one of them is withdrawn", mill, 0, 2);
        nextIs("by numbers", mill, 0);
        queueIs("one is ground", mill, 2);
        mill.pass(1);
        queueIs("one is on the stones", mill);
    }

    private static void byPounds() {
        Check.sentence(GRAIN, "1 the lightest first");
        SeaMill mill = Check.fastMill(1);
        mill.set(RULE, 1);
        int[] pounds = {10, 9, 11, 9, 1, 100};
        for (int its : pounds) {
            mill.bring(0, 0, its);
        }
        queueIs("the lightest", mill, 4, 1, 3, 0, 2, 5);
        nextIs("the lightest", mill, 4);
        nextIs("of two alike the lesser number", mill, 1);
        queueIs("two are ground", mill, 3, 0, 2, 5);
        mill.set(RULE, 0);
        queueIs("by the rule as it is", mill, 0, 2, 3, 5);
    }

    private static void byFarmers() {
        Check.sentence(GRAIN, "2 first those of farmers of whom the fewest sacks have come on the stones");
        SeaMill mill = Check.fastMill(1);
        mill.farmer();
        mill.farmer();
        mill.set(RULE, 2);
        int[] farmers = {0, 0, 1, 2, 0, 1, 2};
        for (int its : farmers) {
            mill.bring(its, 0, 101);
        }
        queueIs("none has come", mill, 0, 1, 2, 3, 4, 5, 6);
        mill.pass(1);
        Check.due("sack 0 is on the stones", 1, mill.sackOf(0, 3));
        queueIs("one of farmer 0 is on the stones", mill, 2, 3, 5, 6, 1, 4);
        mill.pass(1);
        queueIs("it is ground", mill, 2, 3, 5, 6, 1, 4);
        mill.fetch(0);
        queueIs("it is fetched", mill, 2, 3, 5, 6, 1, 4);
        mill.withdraw(3);
        queueIs("farmer 2 withdrew one, none has come", mill, 2, 5, 6, 1, 4);
        mill.pass(2);
        queueIs("one of farmer 1", mill, 6, 1, 4, 5);
        mill.pass(2);
        queueIs("one of each", mill, 1, 4, 5);
        mill.pass(2);
        queueIs("two of farmer 0", mill, 5, 4);
    }

    private static void byKinds() {
        Check.sentence(GRAIN, "3 first those of the kind of the sack that came on the stones last (before there is one: "
            + "none is), then by hardness, the least first; of equal ones by numbers.");
        SeaMill mill = Check.flatMill(100);
        mill.farmer();
        mill.kind(9, 0, 1);
        mill.kind(1, 0, 1);
        mill.kind(5, 0, 1);
        mill.kind(1, 0, 1);
        mill.set(RULE, 3);
        mill.gate(3);
        int[] kinds = {0, 2, 1, 3, 0, 2, 1, 0};
        for (int its : kinds) {
            mill.bring(0, its, 10);
        }
        queueIs("before there is one", mill, 2, 3, 6, 1, 5, 0, 4, 7);
        mill.set(RULE, 0);
        nextIs("by numbers", mill, 0);
        mill.set(RULE, 3);
        queueIs("the last one was of kind 0, the hardest", mill, 4, 7, 2, 3, 6, 1, 5);
        mill.fetch(0);
        queueIs("it is fetched", mill, 4, 7, 2, 3, 6, 1, 5);
        mill.withdraw(7);
        nextIs("the last of kind 0", mill, 4);
        queueIs("no kind 0", mill, 2, 3, 6, 1, 5);
        mill.undo();
        mill.set(RULE, 1);
        nextIs("the lightest", mill, 1);
        mill.set(RULE, 3);
        queueIs("the last one was of kind 2", mill, 5, 2, 3, 6, 4);
        nextIs("the last of kind 2", mill, 5);
        nextIs("the least hardness", mill, 2);
        queueIs("the last one was of kind 1: 3 is as hard, but another one", mill, 6, 3, 4);
    }

    private static void queueAt() {
        String heading = "Promise 14: queueAt";
        Check.sentence(heading, "`index`: 0 for the first one, and so on");
        Check.sentence(heading, "Returns the number of the sack");
        Twins.keeps("queueAt(0)", 5, Mills::busy, mill -> mill.queueAt(0));
        Twins.keeps("queueAt(1)", 6, Mills::busy, mill -> mill.queueAt(1));
        Twins.keeps("queueAt(23)", 23, Mills::full, mill -> mill.queueAt(23));
        Check.sentence(heading, "INVALID_ARGUMENT if index is negative");
        Twins.keeps("queueAt(-1)", Check.INVALID, Mills::busy, mill -> mill.queueAt(-1));
        Twins.keeps("queueAt(MIN)", Check.INVALID, Mills::busy, mill -> mill.queueAt(Integer.MIN_VALUE));
        Twins.keeps("queueAt(NOT_FOUND)", Check.INVALID, Mills::busy, mill -> mill.queueAt(Check.NOT_FOUND));
        Check.sentence(heading, "NOT_FOUND if fewer are waiting.");
        Twins.keeps("queueAt(2) of 2", Check.NOT_FOUND, Mills::busy, mill -> mill.queueAt(2));
        Twins.keeps("queueAt(24) of 24", Check.NOT_FOUND, Mills::full, mill -> mill.queueAt(24));
        Twins.keeps("queueAt(MAX)", Check.NOT_FOUND, Mills::busy, mill -> mill.queueAt(Integer.MAX_VALUE));
        Check.due("queueAt(0) of none", Check.NOT_FOUND, new SeaMill().queueAt(0));
    }
}
