/** Promises 6 to 15: kind, farmer, bring, withdraw, fetch, kindOf, farmerOf, sackOf, queueAt, account. */
public final class GrainTest {
    private GrainTest() {
    }

    public static void main(String[] arguments) {
        kind();
        farmer();
        bring();
        withdraw();
        fetch();
        grinding();
        kindOf();
        farmerOf();
        sackOf();
        queueByNumbersAndPounds();
        queueByFarmers();
        queueByKinds();
        account();
        Check.end("GrainTest");
    }

    private static void kind() {
        SeaMill mill = new SeaMill();
        int[][] wrong = {{0, 0, 1}, {10, 0, 1}, {1, -1, 1}, {1, 21, 1}, {1, 0, 0}, {1, 0, 1000001},
            {Integer.MIN_VALUE, 0, 1}, {1, Integer.MAX_VALUE, 1}, {1, 0, Integer.MAX_VALUE}};
        for (int[] its : wrong) {
            Check.due("kind, wrong", Check.INVALID, mill.kind(its[0], its[1], its[2]));
        }
        Check.due("no kind", 0, mill.count(0));
        Check.due("no change", 0, mill.count(9));
        Check.due("kind(1, 0, 1)", 0, mill.kind(1, 0, 1));
        Check.due("kind(9, 20, 1000000)", 1, mill.kind(9, 20, 1000000));
        for (int number = 2; number < 6; number++) {
            Check.due("kind " + number, number, mill.kind(number, number, number));
        }
        Check.due("kind 6", Check.LIMIT, mill.kind(1, 0, 1));
        Check.due("kind 6, wrong", Check.INVALID, mill.kind(0, 0, 1));
        Check.due("kinds", 6, mill.count(0));
        Check.due("states", 4, mill.count(9));
    }

    private static void farmer() {
        SeaMill mill = new SeaMill();
        for (int number = 0; number < 8; number++) {
            Check.due("farmer " + number, number, mill.farmer());
            Check.due("purse " + number, 0, mill.farmerOf(number, 0));
        }
        Check.due("farmer 8", Check.LIMIT, mill.farmer());
        Check.due("farmers", 8, mill.count(1));
    }

    private static void bring() {
        SeaMill mill = new SeaMill();
        Check.due("nobody", Check.INVALID, mill.bring(0, 0, 1));
        mill.farmer();
        Check.due("no kind", Check.INVALID, mill.bring(0, 0, 1));
        mill.kind(2, 3, 4);
        mill.kind(5, 6, 7);
        mill.farmer();
        int[][] wrong = {{-1, 0, 1}, {2, 0, 1}, {0, -1, 1}, {0, 2, 1}, {0, 0, 0}, {0, 0, 201}, {0, 0, -5},
            {Integer.MIN_VALUE, 0, 1}, {0, Integer.MAX_VALUE, 1}, {0, 0, Integer.MAX_VALUE}};
        for (int[] its : wrong) {
            Check.due("bring, wrong", Check.INVALID, mill.bring(its[0], its[1], its[2]));
        }
        Check.due("no sack", 0, mill.count(2));
        Check.due("bring(1, 0, 1)", 0, mill.bring(1, 0, 1));
        Check.due("bring(0, 1, 200)", 1, mill.bring(0, 1, 200));
        int[] first = {1, 0, 1, 0, 1, 0, 0, 0, 0, 0, 0, 0};
        int[] second = {0, 1, 200, 0, 200, 0, 0, 0, 0, 0, 0, 1};
        for (int what = 0; what <= 11; what++) {
            Check.due("sackOf(0, " + what + ")", first[what], mill.sackOf(0, what));
            Check.due("sackOf(1, " + what + ")", second[what], mill.sackOf(1, what));
        }
        for (int number = 2; number < 24; number++) {
            Check.due("sack " + number, number, mill.bring(0, 0, 9));
        }
        Check.due("sack 24", Check.LIMIT, mill.bring(0, 0, 9));
        Check.due("sack 24, wrong", Check.INVALID, mill.bring(0, 0, 0));
        Check.due("a fetched sack leaves no room", 9, mill.withdraw(5));
        Check.due("sack 24 again", Check.LIMIT, mill.bring(0, 0, 9));
        Check.due("sacks", 24, mill.count(2));
    }

    private static void withdraw() {
        SeaMill mill = Check.fastMill(1);
        mill.set(8, 50);
        mill.gate(0);
        mill.bring(0, 0, 150);
        mill.bring(0, 0, 30);
        mill.bring(0, 0, 40);
        Check.due("withdraw(-1)", Check.INVALID, mill.withdraw(-1));
        Check.due("withdraw(3)", Check.INVALID, mill.withdraw(3));
        Check.due("withdraw(1)", 30, mill.withdraw(1));
        int[] its = {0, 0, 30, 3, 0, 0, 0, 0, 0, 0, 30, Check.NOT_FOUND};
        for (int what = 0; what <= 11; what++) {
            Check.due("withdrawn: sackOf(1, " + what + ")", its[what], mill.sackOf(1, what));
        }
        Check.due("withdraw(1) again", Check.NOT_POSSIBLE, mill.withdraw(1));
        Check.due("fetch(1)", Check.NOT_POSSIBLE, mill.fetch(1));
        Check.due("the queue closes up", 2, mill.queueAt(1));
        Check.due("did not come on the stones", 0, mill.farmerOf(0, 2));
        Check.due("fetched by the farmer", 30, mill.farmerOf(0, 5));
        mill.gate(1);
        mill.pass(1);
        Check.due("on the stones", Check.NOT_POSSIBLE, mill.withdraw(0));
        mill.pass(1);
        Check.due("ground", Check.NOT_POSSIBLE, mill.withdraw(0));
    }

    private static void fetch() {
        SeaMill mill = Check.fastMill(10);
        mill.bring(0, 0, 150);
        mill.bring(0, 0, 1);
        Check.due("fetch(-1)", Check.INVALID, mill.fetch(-1));
        Check.due("fetch(2)", Check.INVALID, mill.fetch(2));
        Check.due("waiting", Check.NOT_POSSIBLE, mill.fetch(0));
        mill.pass(1);
        Check.due("on the stones", Check.NOT_POSSIBLE, mill.fetch(0));
        mill.pass(1);
        mill.pledge(0, 20);
        Check.due("has a pledge", Check.NOT_POSSIBLE, mill.fetch(0));
        Check.due("refused: still ground", 2, mill.sackOf(0, 3));
        mill.redeem(0);
        Check.due("fetch(0)", 135, mill.fetch(0));
        int[] its = {0, 0, 150, 3, 0, 0, 15, 0, 0, 0, 135};
        for (int what = 0; what < its.length; what++) {
            Check.due("fetched: sackOf(0, " + what + ")", its[what], mill.sackOf(0, what));
        }
        Check.due("fetch(0) again", Check.NOT_POSSIBLE, mill.fetch(0));
        mill.set(8, 50);
        mill.pass(1);
        Check.due("toll of 1 pound", 0, mill.sackOf(1, 6));
        mill.pledge(1, 1);
        mill.set(10, 1);
        for (int i = 0; i < 6; i++) {
            mill.pass(200);
        }
        Check.due("all has fallen", 1, mill.sackOf(1, 9));
        Check.due("no flour is fetched", 0, mill.fetch(1));
        Check.due("it is fetched all the same", 3, mill.sackOf(1, 3));
    }

    /** Toll and dust are reckoned of all that is ground so far, with the toll of the coming on the stones. */
    private static void grinding() {
        SeaMill mill = Check.flatMill(100);
        mill.kind(7, 20, 1);
        mill.farmer();
        mill.bring(0, 0, 50);
        mill.set(8, 33);
        mill.gate(1);
        mill.pass(1);
        mill.set(8, 50);
        int[] first = {0, 0, 50, 1, 36, 8, 4, 2, 0, 0, 0};
        for (int what = 0; what < first.length; what++) {
            Check.due("14 ground: sackOf(0, " + what + ")", first[what], mill.sackOf(0, what));
        }
        mill.pass(2);
        int[] second = {0, 0, 50, 1, 8, 24, 13, 5, 0, 0, 0};
        for (int what = 0; what < second.length; what++) {
            Check.due("42 ground: sackOf(0, " + what + ")", second[what], mill.sackOf(0, what));
        }
        mill.pass(1);
        Check.due("no more than its grain", 50, mill.pond(10));
        Check.due("toll of 50", 16, mill.sackOf(0, 6));
        Check.due("dust of 50", 6, mill.sackOf(0, 7));
        Check.due("flour of 50", 28, mill.sackOf(0, 5));
        Check.due("ground", 2, mill.sackOf(0, 3));
        Check.due("it left the stones", Check.NOT_FOUND, mill.pond(6));
        mill.bring(0, 0, 14);
        mill.pass(1);
        Check.due("the next one has the new toll", 7, mill.sackOf(1, 6));
    }

    private static void kindOf() {
        SeaMill mill = Check.fastMill(100);
        mill.kind(3, 7, 999);
        mill.set(10, 1);
        mill.bring(0, 0, 50);
        mill.bring(0, 0, 70);
        mill.bring(0, 1, 30);
        mill.bring(0, 0, 20);
        mill.withdraw(3);
        mill.pass(3);
        mill.pledge(0, 11);
        mill.pledge(1, 12);
        mill.fetch(2);
        int[] first = {1, 0, 100, 3, 12, 0};
        int[] second = {3, 7, 999, 1, 3, 0};
        for (int what = 0; what <= 5; what++) {
            Check.due("kindOf(0, " + what + ")", first[what], mill.kindOf(0, what));
            Check.due("kindOf(1, " + what + ")", second[what], mill.kindOf(1, what));
        }
        mill.pass(200);
        Check.due("fallen of kind 0", 23, mill.kindOf(0, 5));
        Check.due("fallen of kind 1", 0, mill.kindOf(1, 5));
        Check.due("kindOf(0, -1)", Check.INVALID, mill.kindOf(0, -1));
        Check.due("kindOf(0, 6)", Check.INVALID, mill.kindOf(0, 6));
        Check.due("kindOf(-1, 0)", Check.INVALID, mill.kindOf(-1, 0));
        Check.due("kindOf(2, 0)", Check.INVALID, mill.kindOf(2, 0));
    }

    private static void farmerOf() {
        SeaMill mill = Check.fastMill(100);
        mill.farmer();
        mill.bring(0, 0, 50);
        mill.bring(1, 0, 70);
        mill.bring(0, 0, 130);
        mill.bring(0, 0, 20);
        mill.bring(1, 0, 10);
        mill.withdraw(3);
        mill.pass(3);
        mill.earn(0, 5);
        mill.pledge(0, 11);
        mill.fetch(1);
        int[] first = {555, 3, 2, 1, 34 + 90, 20};
        int[] second = {0, 2, 1, 0, 0, 63};
        for (int what = 0; what <= 5; what++) {
            Check.due("farmerOf(0, " + what + ")", first[what], mill.farmerOf(0, what));
            Check.due("farmerOf(1, " + what + ")", second[what], mill.farmerOf(1, what));
        }
        mill.redeem(0);
        Check.due("no pledge any more", 0, mill.farmerOf(0, 3));
        Check.due("its flour again", 45 + 90, mill.farmerOf(0, 4));
        Check.due("farmerOf(0, -1)", Check.INVALID, mill.farmerOf(0, -1));
        Check.due("farmerOf(0, 6)", Check.INVALID, mill.farmerOf(0, 6));
        Check.due("farmerOf(-1, 0)", Check.INVALID, mill.farmerOf(-1, 0));
        Check.due("farmerOf(2, 0)", Check.INVALID, mill.farmerOf(2, 0));
    }

    private static void sackOf() {
        SeaMill mill = Check.fastMill(100);
        mill.bring(0, 0, 50);
        mill.bring(0, 0, 120);
        mill.bring(0, 0, 9);
        mill.pass(2);
        mill.pledge(0, 7);
        int[] its = {0, 0, 50, 2, 0, 38, 5, 0, 7, 0, 0, Check.NOT_FOUND};
        for (int what = 0; what <= 11; what++) {
            Check.due("sackOf(0, " + what + ")", its[what], mill.sackOf(0, what));
        }
        Check.due("on the stones: no place", Check.NOT_FOUND, mill.sackOf(1, 11));
        Check.due("on the stones", 1, mill.sackOf(1, 3));
        Check.due("waiting: first place", 0, mill.sackOf(2, 11));
        mill.set(10, 1);
        mill.redeem(0);
        mill.pledge(0, 8);
        mill.pass(195);
        int[] fallen = {0, 0, 50, 2, 0, 37, 5, 0, 0, 8, 0, Check.NOT_FOUND};
        for (int what = 0; what <= 11; what++) {
            Check.due("fallen: sackOf(0, " + what + ")", fallen[what], mill.sackOf(0, what));
        }
        Check.due("sackOf(0, -1)", Check.INVALID, mill.sackOf(0, -1));
        Check.due("sackOf(0, 12)", Check.INVALID, mill.sackOf(0, 12));
        Check.due("sackOf(-1, 0)", Check.INVALID, mill.sackOf(-1, 0));
        Check.due("sackOf(3, 0)", Check.INVALID, mill.sackOf(3, 0));
        Check.due("sackOf(3, 11)", Check.INVALID, mill.sackOf(3, 11));
    }

    private static void queueIs(String name, SeaMill mill, int... sacks) {
        for (int place = 0; place < sacks.length; place++) {
            Check.due(name + ": queueAt(" + place + ")", sacks[place], mill.queueAt(place));
            Check.due(name + ": sackOf(" + sacks[place] + ", 11)", place, mill.sackOf(sacks[place], 11));
        }
        Check.due(name + ": behind the last", Check.NOT_FOUND, mill.queueAt(sacks.length));
        Check.due(name + ": far behind", Check.NOT_FOUND, mill.queueAt(Integer.MAX_VALUE));
        Check.due(name + ": waiting", sacks.length, mill.count(3));
    }

    private static void queueByNumbersAndPounds() {
        SeaMill mill = Check.fastMill(1);
        int[] pounds = {30, 10, 30, 5, 10};
        for (int its : pounds) {
            mill.bring(0, 0, its);
        }
        Check.due("queueAt(-1)", Check.INVALID, mill.queueAt(-1));
        Check.due("queueAt(MIN)", Check.INVALID, mill.queueAt(Integer.MIN_VALUE));
        queueIs("by numbers", mill, 0, 1, 2, 3, 4);
        mill.set(12, 1);
        queueIs("the lightest", mill, 3, 1, 4, 0, 2);
        mill.pass(1);
        Check.due("the lightest came on the stones", 2, mill.sackOf(3, 3));
        queueIs("the lightest, one ground", mill, 1, 4, 0, 2);
        mill.withdraw(4);
        queueIs("the lightest, one withdrawn", mill, 1, 0, 2);
        mill.set(12, 0);
        queueIs("by numbers again", mill, 0, 1, 2);
        mill.pass(1);
        Check.due("the first came on the stones", 2, mill.sackOf(0, 3));
    }

    private static void queueByFarmers() {
        SeaMill mill = Check.fastMill(1);
        mill.farmer();
        mill.farmer();
        mill.set(12, 2);
        int[] farmers = {0, 0, 1, 0, 2, 1};
        for (int its : farmers) {
            mill.bring(its, 0, 5);
        }
        queueIs("all alike", mill, 0, 1, 2, 3, 4, 5);
        mill.pass(1);
        queueIs("farmer 0 had a turn", mill, 2, 4, 5, 1, 3);
        mill.pass(1);
        queueIs("farmer 1 had a turn", mill, 4, 1, 3, 5);
        mill.withdraw(4);
        queueIs("farmer 2 withdrew", mill, 1, 3, 5);
        mill.bring(2, 0, 5);
        queueIs("farmer 2 had no turn", mill, 6, 1, 3, 5);
        mill.undo();
        mill.undo();
        mill.pass(1);
        queueIs("all had a turn", mill, 1, 3, 5);
    }

    private static void queueByKinds() {
        SeaMill mill = Check.flatMill(100);
        mill.farmer();
        mill.kind(5, 0, 1);
        mill.kind(2, 0, 1);
        mill.kind(9, 0, 1);
        mill.kind(2, 0, 1);
        mill.set(12, 3);
        int[] kinds = {2, 0, 1, 0, 2, 3, 1};
        for (int its : kinds) {
            mill.bring(0, its, 5);
        }
        queueIs("before there is one", mill, 2, 5, 6, 1, 3, 0, 4);
        mill.set(12, 0);
        mill.gate(3);
        mill.pass(1);
        mill.set(12, 3);
        queueIs("kind 2 was the last", mill, 4, 2, 5, 6, 1, 3);
        mill.fetch(0);
        queueIs("it is fetched", mill, 4, 2, 5, 6, 1, 3);
        mill.pass(1);
        queueIs("none of kind 2 is left", mill, 2, 5, 6, 1, 3);
        mill.pass(1);
        queueIs("kind 1 was the last", mill, 6, 5, 1, 3);
        mill.withdraw(6);
        queueIs("none of kind 1 is left", mill, 5, 1, 3);
    }

    private static void account() {
        SeaMill mill = Check.fastMill(100);
        mill.set(10, 1);
        mill.kind(2, 20, 100);
        mill.farmer();
        mill.bring(0, 0, 50);
        mill.bring(0, 1, 40);
        mill.bring(1, 1, 30);
        mill.bring(1, 0, 180);
        mill.bring(0, 0, 60);
        mill.bring(0, 1, 7);
        mill.pass(4);
        mill.pledge(0, 10);
        mill.pass(190);
        mill.pledge(1, 4);
        mill.fetch(2);
        mill.bring(0, 1, 70);
        mill.bring(1, 1, 17);
        mill.withdraw(7);
        mill.bring(0, 0, 3);
        mill.pass(1);
        int[] whats = {2, 4, 5, 6, 7, 8, 9, 10};
        // sack 0: 50 = 35 flour + 5 toll + 10 fallen; 1: 40 = 25 + 4 toll + 7 dust + 4 in pledge;
        // 2: 30 = 3 toll + 5 dust + 22 fetched; 3: 180 = 162 + 18; 4: 60 = 54 + 6; 5: 7 = 6 + 1 dust;
        // 6: 70 = 20 grain + 36 + 5 toll + 9 dust; 7: 17 fetched; 8: 3 grain
        accountIs(mill, 0, 0, whats, 113, 3, 89, 11, 0, 0, 10, 0);
        accountIs(mill, 0, 1, whats, 117, 20, 67, 9, 17, 4, 0, 0);
        accountIs(mill, 1, 0, whats, 180, 0, 162, 18, 0, 0, 0, 0);
        accountIs(mill, 1, 1, whats, 47, 0, 0, 3, 5, 0, 0, 39);
        accountIs(mill, 0, -1, whats, 230, 23, 156, 20, 17, 4, 10, 0);
        accountIs(mill, -1, 1, whats, 164, 20, 67, 12, 22, 4, 0, 39);
        accountIs(mill, -1, -1, whats, 457, 23, 318, 41, 22, 4, 10, 39);
        int[][] wrong = {{-2, 0, 2}, {2, 0, 2}, {0, -2, 2}, {0, 2, 2}, {0, 0, 1}, {0, 0, 0}, {0, 0, -1},
            {0, 0, 3}, {0, 0, 11}, {-1, -1, 3}, {Integer.MIN_VALUE, 0, 2}, {0, Integer.MAX_VALUE, 2}};
        for (int[] its : wrong) {
            Check.due("account, wrong", Check.INVALID, mill.account(its[0], its[1], its[2]));
        }
    }

    private static void accountIs(SeaMill mill, int farmer, int kind, int[] whats, int... pounds) {
        for (int i = 0; i < whats.length; i++) {
            String call = "account(" + farmer + ", " + kind + ", " + whats[i] + ")";
            Check.due(call, pounds[i], mill.account(farmer, kind, whats[i]));
        }
    }
}
