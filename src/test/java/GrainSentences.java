/** The boundary cases of "Grain" and promises 6 to 15. */
final class GrainSentences {
    private static final String GRAIN = "Grain";
    private static final int MIN = Integer.MIN_VALUE;
    private static final int MAX = Integer.MAX_VALUE;
    /** What sackOf() tells of the sacks of the busy mill. */
    private static final int[][] BUSY = {
        {0, 0, 50, 2, 0, 35, 5, 0, 10, 0, 0, Check.NOT_FOUND},
        {1, 0, 60, 2, 0, 47, 6, 0, 7, 0, 0, Check.NOT_FOUND},
        {2, 1, 40, 2, 0, 24, 4, 7, 0, 5, 0, Check.NOT_FOUND},
        {0, 0, 30, 3, 0, 0, 3, 0, 0, 0, 27, Check.NOT_FOUND},
        {1, 0, 170, 1, 70, 90, 10, 0, 0, 0, 0, Check.NOT_FOUND},
        {2, 1, 20, 0, 20, 0, 0, 0, 0, 0, 0, 0},
        {0, 1, 9, 0, 9, 0, 0, 0, 0, 0, 0, 1},
        {1, 0, 8, 3, 0, 0, 0, 0, 0, 0, 8, Check.NOT_FOUND}};

    private GrainSentences() {
    }

    static void all() {
        limits();
        stages();
        tollAndDust();
        tollOfItsTime();
        reckonedAnew();
        grain();
        fetchedHasNone();
        kind();
        farmer();
        bring();
        withdraw();
        fetch();
        fetchOfNothing();
        kindOf();
        farmerOf();
        sackOf();
        account();
    }

    private static void limits() {
        Check.sentence(GRAIN, "There are at most 6 kinds of grain, 8 farmers and 24 sacks, each numbered from 0.");
        SeaMill mill = new SeaMill();
        for (int number = 0; number < 6; number++) {
            Check.due("kind " + number, number, mill.kind(1, 0, 1));
        }
        Check.due("kind 6", Check.LIMIT, mill.kind(1, 0, 1));
        for (int number = 0; number < 8; number++) {
            Check.due("farmer " + number, number, mill.farmer());
        }
        Check.due("farmer 8", Check.LIMIT, mill.farmer());
        for (int number = 0; number < 24; number++) {
            Check.due("sack " + number, number, mill.bring(number % 8, number % 6, 1));
        }
        Check.due("sack 24", Check.LIMIT, mill.bring(0, 0, 1));
        Check.due("kinds", 6, mill.count(0));
        Check.due("farmers", 8, mill.count(1));
        Check.due("sacks", 24, mill.count(2));
        mill.undo();
        Check.due("sack 23 again", 23, mill.bring(0, 0, 1));
    }

    private static void stages() {
        Check.sentence(GRAIN, "It is waiting at first, then on the stones, then ground, and at last fetched.");
        SeaMill mill = Mills.stones(100, 1);
        mill.bring(0, 0, 101);
        Check.due("at first", 0, mill.sackOf(0, 3));
        mill.pass(1);
        Check.due("the gate is closed", 0, mill.sackOf(0, 3));
        mill.gate(1);
        mill.pass(1);
        Check.due("on the stones", 1, mill.sackOf(0, 3));
        mill.gate(0);
        mill.pass(9);
        Check.due("still on the stones", 1, mill.sackOf(0, 3));
        mill.gate(1);
        mill.pass(1);
        Check.due("ground", 2, mill.sackOf(0, 3));
        mill.pass(1);
        Check.due("still ground", 2, mill.sackOf(0, 3));
        mill.fetch(0);
        Check.due("fetched", 3, mill.sackOf(0, 3));
    }

    /** The sack of a mill that grinds it in one step. */
    private static void sharesAre(int pounds, int percent, int dust, int flour, int tollDue, int dustDue) {
        SeaMill mill = Check.flatMill(100);
        mill.kind(1, dust, 1);
        mill.farmer();
        mill.set(8, percent);
        mill.bring(0, 0, pounds);
        mill.gate(3);
        mill.pass(1);
        String name = pounds + " pounds, toll " + percent + ", dust " + dust;
        Check.due(name + ": flour", flour, mill.sackOf(0, 5));
        Check.due(name + ": toll", tollDue, mill.sackOf(0, 6));
        Check.due(name + ": dust", dustDue, mill.sackOf(0, 7));
        Check.due(name + ": grain", 0, mill.sackOf(0, 4));
    }

    private static void tollAndDust() {
        Check.sentence(GRAIN, "with g of them, its toll is g * (the toll in percent, as it was when the sack came on the "
            + "stones) / 100, its dust is (g - toll) * (the dust of its kind) / 100, and its meal is the others.");
        sharesAre(200, 0, 0, 200, 0, 0);
        sharesAre(200, 50, 20, 80, 100, 20);
        sharesAre(200, 0, 20, 160, 0, 40);
        sharesAre(200, 50, 0, 100, 100, 0);
        sharesAre(9, 10, 0, 9, 0, 0);
        sharesAre(10, 10, 0, 9, 1, 0);
        sharesAre(19, 10, 0, 18, 1, 0);
        sharesAre(1, 50, 20, 1, 0, 0);
        sharesAre(2, 50, 20, 1, 1, 0);
        sharesAre(10, 50, 20, 4, 5, 1);
        sharesAre(8, 50, 20, 4, 4, 0);
        sharesAre(99, 1, 1, 99, 0, 0);
        sharesAre(100, 1, 1, 99, 1, 0);
        sharesAre(101, 1, 1, 99, 1, 1);
    }

    /** The toll of 100 pounds by the settings of three times. */
    private static int toll(int brought, int onStones, int later) {
        SeaMill mill = Mills.stones(40, 1);
        mill.set(8, brought);
        mill.bring(0, 0, 100);
        mill.set(8, onStones);
        mill.gate(1);
        mill.pass(1);
        mill.set(8, later);
        mill.pass(1);
        Check.due("on the stones: toll of 80", 80 * onStones / 100, mill.sackOf(0, 6));
        mill.pass(1);
        int toll = mill.sackOf(0, 6);
        mill.set(8, 49);
        Check.due("ground: the toll is kept", toll, mill.sackOf(0, 6));
        return toll;
    }

    private static void tollOfItsTime() {
        Check.sentence(GRAIN, "(the toll in percent, as it was when the sack came on the stones)");
        Check.due("10, then 50, then 0", 50, toll(10, 50, 0));
        Check.due("10, then 0, then 50", 0, toll(10, 0, 50));
        Check.due("0, then 30, then 30", 30, toll(0, 30, 30));
    }

    private static void reckonedAnew() {
        Check.sentence(GRAIN, "(Toll and dust are reckoned anew of all that is ground so far.)");
        SeaMill mill = Check.flatMill(7);
        mill.kind(1, 20, 1);
        mill.farmer();
        mill.bring(0, 0, 28);
        mill.gate(1);
        int[] tolls = {0, 1, 2, 2};
        int[] dusts = {1, 2, 3, 5};
        for (int step = 0; step < 4; step++) {
            mill.pass(1);
            int ground = 7 * (step + 1);
            Check.due("toll of " + ground, tolls[step], mill.sackOf(0, 6));
            Check.due("dust of " + ground, dusts[step], mill.sackOf(0, 7));
            Check.due("flour of " + ground, ground - tolls[step] - dusts[step], mill.sackOf(0, 5));
        }
    }

    private static void grain() {
        Check.sentence(GRAIN, "Its grain is what is not ground.");
        SeaMill mill = Mills.stones(30, 1);
        mill.bring(0, 0, 61);
        mill.gate(1);
        int[] grains = {61, 31, 1, 0, 0};
        for (int grain : grains) {
            Check.due("grain", grain, mill.sackOf(0, 4));
            Check.due("of all sacks", grain, mill.account(-1, -1, 4));
            mill.pass(1);
        }
    }

    private static void addsUp(String name, SeaMill mill) {
        for (int sack = 0; sack < mill.count(2); sack++) {
            int sum = 0;
            for (int what = 4; what <= 10; what++) {
                Check.due(name + ": not below 0", 1, mill.sackOf(sack, what) >= 0 ? 1 : 0);
                sum += mill.sackOf(sack, what);
            }
            Check.due(name + ": all of sack " + sack, mill.sackOf(sack, 2), sum);
        }
    }

    private static void fetchedHasNone() {
        Check.sentence(GRAIN, "When it is fetched, its grain and flour are fetched, and it has none of them any more; so "
            + "brought = grain + flour + toll + dust + in pledge + fallen + fetched, at any time.");
        SeaMill mill = Mills.busy();
        mill.bring(0, 1, 200);
        addsUp("busy", mill);
        mill = Mills.busy();
        mill.withdraw(5);
        int[] withdrawn = {2, 1, 20, 3, 0, 0, 0, 0, 0, 0, 20, Check.NOT_FOUND};
        sackIs("withdrawn", mill, 5, withdrawn);
        mill.fetch(2);
        int[] fetched = {2, 1, 40, 3, 0, 0, 4, 7, 0, 5, 24, Check.NOT_FOUND};
        sackIs("fetched, with fallen pounds", mill, 2, fetched);
        mill = Mills.busy();
        mill.withdraw(6);
        mill.pass(188);
        mill.fetch(4);
        addsUp("a day later", mill);
        Check.sentence(GRAIN, "Of its meal, pounds can be in pledge, and pounds can have fallen to the miller; its flour "
            + "is the meal that is neither.");
        int[] fallen = {1, 0, 60, 2, 0, 47, 6, 0, 0, 7, 0, Check.NOT_FOUND};
        sackIs("in pledge, then fallen", mill, 1, fallen);
        mill.pledge(1, 47);
        int[] both = {1, 0, 60, 2, 0, 0, 6, 0, 47, 7, 0, Check.NOT_FOUND};
        sackIs("fallen, the rest in pledge", mill, 1, both);
    }

    private static void sackIs(String name, SeaMill mill, int sack, int[] its) {
        for (int what = 0; what <= 11; what++) {
            Check.due(name + ": sackOf(" + sack + ", " + what + ")", its[what], mill.sackOf(sack, what));
        }
    }

    private static void kind() {
        String heading = "Promise 6: kind";
        Check.sentence(GRAIN, "A kind has a hardness (1 to 9), dust in percent (0 to 20), and a price of a pound (1 to "
            + "1000000 pence).");
        Check.sentence(heading, "`hardness`: 1 to 9");
        Check.sentence(heading, "`dust`: in percent, 0 to 20");
        Check.sentence(heading, "`price`: of a pound, 1 to 1000000");
        Check.sentence(heading, "Returns its number");
        int[][] right = {{1, 0, 1}, {9, 0, 1}, {1, 20, 1}, {1, 0, 1000000}, {9, 20, 1000000}};
        for (int[] its : right) {
            Twins.changes("kind", 2, Mills::busy, mill -> mill.kind(its[0], its[1], its[2]));
            SeaMill mill = new SeaMill();
            Check.due("the first kind", 0, mill.kind(its[0], its[1], its[2]));
            for (int what = 0; what <= 2; what++) {
                Check.due("kindOf(0, " + what + ")", its[what], mill.kindOf(0, what));
            }
        }
        Check.sentence(heading, "INVALID_ARGUMENT if an argument is out of range");
        int[][] wrong = {{0, 0, 1}, {10, 0, 1}, {1, -1, 1}, {1, 21, 1}, {1, 0, 0}, {1, 0, 1000001}, {MIN, 0, 1},
            {MAX, 0, 1}, {1, MIN, 1}, {1, MAX, 1}, {1, 0, MIN}, {1, 0, MAX}, {0, -1, 0}};
        for (int[] its : wrong) {
            String call = "kind(" + its[0] + ", " + its[1] + ", " + its[2] + ")";
            Twins.keeps(call, Check.INVALID, Mills::busy, mill -> mill.kind(its[0], its[1], its[2]));
        }
        Check.sentence(heading, "LIMIT_REACHED if there are 6.");
        SeaMill mill = new SeaMill();
        for (int number = 0; number < 6; number++) {
            Check.due("kind " + number, number, mill.kind(number + 1, number, number + 1));
        }
        Twins.keeps("kind(1, 0, 1), the 7th", Check.LIMIT, Mills::full, its -> its.kind(1, 0, 1));
        Check.due("kindOf(5, 0), the last", 6, mill.kindOf(5, 0));
    }

    private static void farmer() {
        Check.sentence("Promise 7: farmer", "Returns the number");
        Twins.changes("farmer(), the first", 0, SeaMill::new, SeaMill::farmer);
        Twins.changes("farmer(), the 4th", 3, Mills::busy, SeaMill::farmer);
        SeaMill mill = new SeaMill();
        for (int number = 0; number < 7; number++) {
            mill.farmer();
        }
        Check.due("farmer(), the 8th", 7, mill.farmer());
        Check.sentence(GRAIN, "A farmer has a purse (0 pence at first).");
        Check.due("farmerOf(7, 0)", 0, mill.farmerOf(7, 0));
        mill.earn(7, 5);
        mill.undo();
        mill.undo();
        mill.farmer();
        Check.due("farmerOf(7, 0) of another farmer 7", 0, mill.farmerOf(7, 0));
        Check.sentence("Promise 7: farmer", "LIMIT_REACHED if there are 8.");
        Twins.keeps("farmer(), the 9th", Check.LIMIT, Mills::full, SeaMill::farmer);
    }

    private static void bring() {
        String heading = "Promise 8: bring";
        Check.sentence(GRAIN, "A sack belongs to a farmer, is of a kind, and has pounds (1 to 200) that were brought.");
        Check.sentence(heading, "`farmer`: number of the farmer");
        Check.sentence(heading, "`kind`: number of the kind");
        Check.sentence(heading, "`pounds`: 1 to 200");
        Check.sentence(heading, "Returns the number of the sack");
        int[][] right = {{0, 0, 1}, {2, 0, 1}, {0, 1, 1}, {0, 0, 200}, {2, 1, 200}};
        for (int[] its : right) {
            Twins.changes("bring", 8, Mills::busy, mill -> mill.bring(its[0], its[1], its[2]));
            SeaMill mill = Mills.busy();
            mill.bring(its[0], its[1], its[2]);
            int[] due = {its[0], its[1], its[2], 0, its[2], 0, 0, 0, 0, 0, 0, 2};
            sackIs("brought", mill, 8, due);
        }
        Check.sentence(heading, "INVALID_ARGUMENT if an argument is out of range");
        int[][] wrong = {{-1, 0, 1}, {3, 0, 1}, {0, -1, 1}, {0, 2, 1}, {0, 0, 0}, {0, 0, 201}, {MIN, 0, 1}, {MAX, 0, 1},
            {0, MIN, 1}, {0, MAX, 1}, {0, 0, MIN}, {0, 0, MAX}, {0, 0, -1}};
        for (int[] its : wrong) {
            String call = "bring(" + its[0] + ", " + its[1] + ", " + its[2] + ")";
            Twins.keeps(call, Check.INVALID, Mills::busy, mill -> mill.bring(its[0], its[1], its[2]));
        }
        SeaMill mill = new SeaMill();
        Check.due("no farmer, no kind", Check.INVALID, mill.bring(0, 0, 1));
        mill.farmer();
        Check.due("no kind", Check.INVALID, mill.bring(0, 0, 1));
        mill.undo();
        mill.kind(1, 0, 1);
        Check.due("no farmer", Check.INVALID, mill.bring(0, 0, 1));
        mill.farmer();
        Check.due("both", 0, mill.bring(0, 0, 1));
        Check.sentence(heading, "LIMIT_REACHED if there are 24.");
        Twins.keeps("bring(0, 0, 1), the 25th", Check.LIMIT, Mills::full, its -> its.bring(0, 0, 1));
        mill = Mills.full();
        mill.withdraw(0);
        Check.due("one of them is fetched", Check.LIMIT, mill.bring(0, 0, 1));
        mill.undo();
        mill.undo();
        Check.due("bring(0, 0, 1), the 24th", 23, mill.bring(0, 0, 1));
    }

    private static void withdraw() {
        String heading = "Promise 9: withdraw";
        Check.sentence(heading, "Returns its pounds");
        Twins.changes("withdraw(5)", 20, Mills::busy, mill -> mill.withdraw(5));
        Twins.changes("withdraw(6)", 9, Mills::busy, mill -> mill.withdraw(6));
        Twins.changes("withdraw(23)", 24, Mills::full, mill -> mill.withdraw(23));
        Check.sentence(heading, "A sack that is waiting is fetched as it is.");
        SeaMill mill = Mills.busy();
        mill.withdraw(5);
        int[] due = {2, 1, 20, 3, 0, 0, 0, 0, 0, 0, 20, Check.NOT_FOUND};
        sackIs("withdrawn", mill, 5, due);
        Check.due("the queue closes up", 6, mill.queueAt(0));
        Check.due("it did not come on the stones", 1, mill.farmerOf(2, 2));
        Check.sentence(heading, "`sack`: number of the sack");
        Check.sentence(heading, "INVALID_ARGUMENT");
        for (int wrong : new int[] {-1, 8, MIN, MAX}) {
            Twins.keeps("withdraw(" + wrong + ")", Check.INVALID, Mills::busy, its -> its.withdraw(wrong));
        }
        Check.due("withdraw(0) without sacks", Check.INVALID, new SeaMill().withdraw(0));
        Check.sentence(heading, "NOT_POSSIBLE if it is not waiting.");
        Twins.keeps("withdraw(4), on the stones", Check.NOT_POSSIBLE, Mills::busy, its -> its.withdraw(4));
        Twins.keeps("withdraw(2), ground", Check.NOT_POSSIBLE, Mills::busy, its -> its.withdraw(2));
        Twins.keeps("withdraw(0), in pledge", Check.NOT_POSSIBLE, Mills::busy, its -> its.withdraw(0));
        Twins.keeps("withdraw(3), fetched", Check.NOT_POSSIBLE, Mills::busy, its -> its.withdraw(3));
        Twins.keeps("withdraw(7), withdrawn", Check.NOT_POSSIBLE, Mills::busy, its -> its.withdraw(7));
    }

    private static void fetch() {
        String heading = "Promise 10: fetch";
        Check.sentence(heading, "A sack that is ground is fetched.");
        Twins.changes("fetch(2)", 24, Mills::busy, mill -> mill.fetch(2));
        SeaMill mill = Mills.busy();
        mill.earn(0, 1000);
        mill.redeem(0);
        Check.due("fetch(0), redeemed", 45, mill.fetch(0));
        Check.sentence(heading, "`sack`: number of the sack");
        Check.sentence(heading, "INVALID_ARGUMENT");
        for (int wrong : new int[] {-1, 8, MIN, MAX}) {
            Twins.keeps("fetch(" + wrong + ")", Check.INVALID, Mills::busy, its -> its.fetch(wrong));
        }
        Check.due("fetch(0) without sacks", Check.INVALID, new SeaMill().fetch(0));
        Check.sentence(heading, "NOT_POSSIBLE if it is not ground, is fetched already, or has a pledge.");
        Twins.keeps("fetch(5), waiting", Check.NOT_POSSIBLE, Mills::busy, its -> its.fetch(5));
        Twins.keeps("fetch(4), on the stones", Check.NOT_POSSIBLE, Mills::busy, its -> its.fetch(4));
        Twins.keeps("fetch(3), fetched", Check.NOT_POSSIBLE, Mills::busy, its -> its.fetch(3));
        Twins.keeps("fetch(7), withdrawn", Check.NOT_POSSIBLE, Mills::busy, its -> its.fetch(7));
        Twins.keeps("fetch(0), in pledge", Check.NOT_POSSIBLE, Mills::busy, its -> its.fetch(0));
        mill = Mills.flour(1, 100);
        mill.pledge(0, 1);
        Check.due("a pledge of a pound for nothing", Check.NOT_POSSIBLE, mill.fetch(0));
    }

    private static void fetchOfNothing() {
        Check.sentence("Promise 10: fetch", "Returns the pounds of flour that are fetched (they may be 0)");
        SeaMill mill = Mills.flour(100, 1);
        mill.set(10, 1);
        mill.pledge(0, 1);
        mill.pass(191 - 3);
        Check.due("in pledge", Check.NOT_POSSIBLE, mill.fetch(0));
        mill.pass(1);
        Check.due("all has fallen", 0, mill.fetch(0));
        Check.due("it is fetched", 3, mill.sackOf(0, 3));
        Check.due("fetched already", Check.NOT_POSSIBLE, mill.fetch(0));
        Check.due("a pound", 1, Mills.flour(1, 1).fetch(0));
        Check.due("200 pounds", 200, Mills.flour(1, 200).fetch(0));
    }

    private static void kindOf() {
        String heading = "Promise 11: kindOf";
        Check.sentence(heading, "`kind`: number of the kind");
        Check.sentence(heading, "Returns the number");
        Check.sentence(heading, "`what`: 0: its hardness; 1: its dust in percent; 2: its price; 3: sacks of it that were "
            + "brought; 4: pounds of toll of it; 5: pounds of it that have fallen to the miller");
        int[][] its = {{1, 0, 100, 5, 24, 0}, {2, 20, 1000, 3, 4, 5}};
        for (int kind = 0; kind <= 1; kind++) {
            for (int what = 0; what <= 5; what++) {
                int number = kind;
                int which = what;
                String call = "kindOf(" + kind + ", " + what + ")";
                Twins.keeps(call, its[kind][what], Mills::busy, mill -> mill.kindOf(number, which));
            }
        }
        Check.due("kindOf(5, 3), the last", 4, Mills.full().kindOf(5, 3));
        Check.sentence(heading, "INVALID_ARGUMENT if an argument is out of range.");
        int[][] wrong = {{-1, 0}, {2, 0}, {MIN, 0}, {MAX, 0}, {0, -1}, {0, 6}, {0, MIN}, {0, MAX}, {2, 6}};
        for (int[] a : wrong) {
            String call = "kindOf(" + a[0] + ", " + a[1] + ")";
            Twins.keeps(call, Check.INVALID, Mills::busy, mill -> mill.kindOf(a[0], a[1]));
        }
        Check.due("kindOf(6, 0) of 6", Check.INVALID, Mills.full().kindOf(6, 0));
        Check.due("kindOf(0, 0) of none", Check.INVALID, new SeaMill().kindOf(0, 0));
    }

    private static void farmerOf() {
        String heading = "Promise 12: farmerOf";
        Check.sentence(heading, "`farmer`: number of the farmer");
        Check.sentence(heading, "Returns the number");
        Check.sentence(heading, "`what`: 0: the purse; 1: sacks that were brought; 2: of these, those that came on the "
            + "stones; 3: pledges; 4: pounds of flour at the mill; 5: pounds that were fetched");
        int[][] its = {{500, 3, 2, 1, 35, 27}, {350, 3, 2, 1, 137, 8}, {2599, 2, 1, 0, 24, 0}};
        for (int farmer = 0; farmer <= 2; farmer++) {
            for (int what = 0; what <= 5; what++) {
                int number = farmer;
                int which = what;
                String call = "farmerOf(" + farmer + ", " + what + ")";
                Twins.keeps(call, its[farmer][what], Mills::busy, mill -> mill.farmerOf(number, which));
            }
        }
        Check.due("farmerOf(7, 1), the last", 3, Mills.full().farmerOf(7, 1));
        Check.sentence(heading, "INVALID_ARGUMENT if an argument is out of range.");
        int[][] wrong = {{-1, 0}, {3, 0}, {MIN, 0}, {MAX, 0}, {0, -1}, {0, 6}, {0, MIN}, {0, MAX}, {3, 6}};
        for (int[] a : wrong) {
            String call = "farmerOf(" + a[0] + ", " + a[1] + ")";
            Twins.keeps(call, Check.INVALID, Mills::busy, mill -> mill.farmerOf(a[0], a[1]));
        }
        Check.due("farmerOf(8, 0) of 8", Check.INVALID, Mills.full().farmerOf(8, 0));
        Check.due("farmerOf(0, 0) of none", Check.INVALID, new SeaMill().farmerOf(0, 0));
    }

    private static void sackOf() {
        String heading = "Promise 13: sackOf";
        Check.sentence(heading, "`sack`: number of the sack");
        Check.sentence(heading, "Returns the number");
        Check.sentence(heading, "`what`: 0: its farmer; 1: its kind; 2: pounds brought; 3: 0 if it is waiting, 1 if it is "
            + "on the stones, 2 if it is ground, 3 if it is fetched; 4: grain; 5: flour; 6: toll; 7: dust; 8: pounds in "
            + "pledge; 9: pounds fallen; 10: pounds fetched; 11: its place in the queue, from 0");
        for (int sack = 0; sack < BUSY.length; sack++) {
            sackIs("busy", Mills.busy(), sack, BUSY[sack]);
        }
        Twins.keeps("sackOf(0, 0)", 0, Mills::busy, mill -> mill.sackOf(0, 0));
        Twins.keeps("sackOf(6, 11)", 1, Mills::busy, mill -> mill.sackOf(6, 11));
        Check.due("sackOf(23, 11), the last", 23, Mills.full().sackOf(23, 11));
        Check.sentence(heading, "INVALID_ARGUMENT if an argument is out of range");
        int[][] wrong = {{-1, 0}, {8, 0}, {MIN, 0}, {MAX, 0}, {0, -1}, {0, 12}, {0, MIN}, {0, MAX}, {8, 12}, {8, 11}};
        for (int[] a : wrong) {
            String call = "sackOf(" + a[0] + ", " + a[1] + ")";
            Twins.keeps(call, Check.INVALID, Mills::busy, mill -> mill.sackOf(a[0], a[1]));
        }
        Check.due("sackOf(24, 0) of 24", Check.INVALID, Mills.full().sackOf(24, 0));
        Check.due("sackOf(0, 0) of none", Check.INVALID, new SeaMill().sackOf(0, 0));
        Check.sentence(heading, "NOT_FOUND for 11 if it is not waiting.");
        int[] notWaiting = {0, 2, 3, 4, 7};
        for (int sack : notWaiting) {
            Twins.keeps("sackOf(" + sack + ", 11)", Check.NOT_FOUND, Mills::busy, mill -> mill.sackOf(sack, 11));
        }
    }

    private static void accountIs(int farmer, int kind, int... pounds) {
        int[] whats = {2, 4, 5, 6, 7, 8, 9, 10};
        for (int i = 0; i < whats.length; i++) {
            int what = whats[i];
            String call = "account(" + farmer + ", " + kind + ", " + what + ")";
            Twins.keeps(call, pounds[i], Mills::busy, mill -> mill.account(farmer, kind, what));
        }
    }

    private static void account() {
        String heading = "Promise 15: account";
        Check.sentence(heading, "`farmer`: number of the farmer, or -1 for all");
        Check.sentence(heading, "`kind`: number of the kind, or -1 for all");
        Check.sentence(heading, "`what`: 2 and 4 to 10, as told for sackOf()");
        Check.sentence(heading, "Returns the pounds");
        accountIs(-1, -1, 387, 99, 196, 28, 7, 17, 5, 35);
        accountIs(0, -1, 89, 9, 35, 8, 0, 10, 0, 27);
        accountIs(2, -1, 60, 20, 24, 4, 7, 0, 5, 0);
        accountIs(-1, 1, 69, 29, 24, 4, 7, 0, 5, 0);
        accountIs(1, 0, 238, 70, 137, 16, 0, 7, 0, 8);
        accountIs(1, 1, 0, 0, 0, 0, 0, 0, 0, 0);
        Check.due("24 sacks", 24 * 25 / 2, Mills.full().account(-1, -1, 2));
        Check.due("the last farmer", 8 + 16 + 24, Mills.full().account(7, -1, 4));
        Check.due("the last kind", 6 + 12 + 18 + 24, Mills.full().account(-1, 5, 4));
        Check.due("no sacks", 0, new SeaMill().account(-1, -1, 2));
        Check.sentence(heading, "INVALID_ARGUMENT if an argument is out of range.");
        int[][] wrong = {{-2, 0, 2}, {3, 0, 2}, {MIN, 0, 2}, {MAX, 0, 2}, {0, -2, 2}, {0, 2, 2}, {0, MIN, 2},
            {0, MAX, 2}, {0, 0, 1}, {0, 0, 3}, {0, 0, 11}, {0, 0, 0}, {0, 0, -1}, {0, 0, MIN}, {0, 0, MAX},
            {-1, -1, 3}, {-2, -1, 2}, {-1, -2, 2}, {3, -1, 2}, {-1, 2, 2}};
        for (int[] a : wrong) {
            String call = "account(" + a[0] + ", " + a[1] + ", " + a[2] + ")";
            Twins.keeps(call, Check.INVALID, Mills::busy, mill -> mill.account(a[0], a[1], a[2]));
        }
    }
}
