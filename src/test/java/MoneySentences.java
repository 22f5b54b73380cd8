/** The boundary cases of "Pledges", of the falling of pledges in "A step", and promises 16 to 20. */
final class MoneySentences {
    private static final String PLEDGES = "Pledges";
    private static final int MIN = Integer.MIN_VALUE;
    private static final int MAX = Integer.MAX_VALUE;
    private static final int INTEREST = 9;
    private static final int DAYS = 10;
    private static final int SHARE = 11;

    private MoneySentences() {
    }

    static void all() {
        earn();
        flourForPledges();
        loan();
        loanTooGreat();
        purseTooGreat();
        loanOfNothing();
        lastDay();
        interest();
        owedTooGreat();
        redeemedFlour();
        falling();
        fallen();
        fallenInOneCall();
        pledge();
        owed();
        redeem();
        pledgeAt();
        manyPledges();
    }

    private static void earn() {
        String heading = "Promise 16: earn";
        Check.sentence(heading, "`farmer`: number of the farmer");
        Check.sentence(heading, "`pence`: 1 to 1000000000");
        Check.sentence(heading, "Returns the purse then");
        Twins.changes("earn(0, 1)", 501, Mills::busy, mill -> mill.earn(0, 1));
        Twins.changes("earn(2, 1000000000)", 1000002599, Mills::busy, mill -> mill.earn(2, 1000000000));
        Check.sentence(heading, "INVALID_ARGUMENT if an argument is out of range");
        int[][] wrong = {{-1, 1}, {3, 1}, {MIN, 1}, {MAX, 1}, {0, 0}, {0, 1000000001}, {0, -1}, {0, MIN}, {0, MAX},
            {3, 0}};
        for (int[] its : wrong) {
            String call = "earn(" + its[0] + ", " + its[1] + ")";
            Twins.keeps(call, Check.INVALID, Mills::busy, mill -> mill.earn(its[0], its[1]));
        }
        Check.due("nobody", Check.INVALID, new SeaMill().earn(0, 1));
        Check.sentence(heading, "NOT_POSSIBLE if it would be too great.");
        Check.sentence(PLEDGES, "Pence are ints: a product or a sum that is greater than 2147483647 is too great.");
        Twins.changes("earn(0, 7), 7 are missing", MAX, () -> Mills.rich(7), mill -> mill.earn(0, 7));
        Twins.keeps("earn(0, 8), 7 are missing", Check.NOT_POSSIBLE, () -> Mills.rich(7), mill -> mill.earn(0, 8));
        Twins.keeps("earn(0, 1), full", Check.NOT_POSSIBLE, () -> Mills.rich(0), mill -> mill.earn(0, 1));
        Twins.keeps("earn(0, 1000000000), full", Check.NOT_POSSIBLE, () -> Mills.rich(0),
            mill -> mill.earn(0, 1000000000));
    }

    private static void flourForPledges() {
        Check.sentence(PLEDGES, "Flour of a sack that is ground can be put in pledge, if the sack has no pledge");
        SeaMill mill = Check.fastMill(100);
        mill.bring(0, 0, 110);
        Check.due("waiting", Check.NOT_POSSIBLE, mill.pledge(0, 1));
        mill.pass(1);
        Check.due("on the stones, with flour", 90, mill.sackOf(0, 5));
        Check.due("on the stones", Check.NOT_POSSIBLE, mill.pledge(0, 1));
        mill.pass(1);
        Check.due("more than its flour", Check.NOT_POSSIBLE, mill.pledge(0, 100));
        Check.due("all its flour", 99 * 50, mill.pledge(0, 99));
        Check.due("none is left", 0, mill.sackOf(0, 5));
        mill.undo();
        Check.due("a pound", 50, mill.pledge(0, 1));
        Check.due("a second pledge", Check.NOT_POSSIBLE, mill.pledge(0, 1));
        mill.redeem(0);
        Check.due("redeemed, another pledge", 100, mill.pledge(0, 2));
    }

    /** What is lent for pounds of flour. */
    private static int lent(int price, int share, int pounds) {
        SeaMill mill = Mills.flour(price, 200);
        mill.set(SHARE, share);
        int lent = mill.pledge(0, pounds);
        Check.due("the purse", Math.max(lent, 0), mill.farmerOf(0, 0));
        Check.due("in pledge", lent < 0 ? 0 : pounds, mill.sackOf(0, 8));
        return lent;
    }

    private static void loan() {
        Check.sentence(PLEDGES, "the farmer gets pounds * price * (the share lent) / 100 pence, multiplied first.");
        Check.due("3 * 1 * 50", 1, lent(1, 50, 3));
        Check.due("2 * 1 * 50", 1, lent(1, 50, 2));
        Check.due("33 * 1 * 3", 0, lent(1, 3, 33));
        Check.due("34 * 1 * 3", 1, lent(1, 3, 34));
        Check.due("7 * 7 * 1", 0, lent(7, 1, 7));
        Check.due("7 * 29 * 1", 2, lent(29, 1, 7));
        Check.due("200 * 999 * 100", 199800, lent(999, 100, 200));
        Check.due("1 * 1000000 * 100", 1000000, lent(1000000, 100, 1));
    }

    private static void loanTooGreat() {
        Check.sentence(PLEDGES, "No loan is given if a product for it, or the purse then, would be too great");
        Check.due("198 * 349867 * 31 = 2147483646", 21474836, lent(349867, 31, 198));
        Check.due("128 * 262144 * 64 = 2147483648", Check.NOT_POSSIBLE, lent(262144, 64, 128));
        Check.due("a pound less", 21307064, lent(262144, 64, 127));
        Check.due("21 * 1000000 * 100", 21000000, lent(1000000, 100, 21));
        Check.due("22 * 1000000 * 100", Check.NOT_POSSIBLE, lent(1000000, 100, 22));
        Check.due("200 * 1000000 * 10", 20000000, lent(1000000, 10, 200));
        Check.due("200 * 1000000 * 11", Check.NOT_POSSIBLE, lent(1000000, 11, 200));
        // the product is 820130816 more than 4 * 2^32: an int that wraps around would not show it
        Check.due("180 * 1000000 * 100", Check.NOT_POSSIBLE, lent(1000000, 100, 180));
        Check.due("200 * 1000000 * 100", Check.NOT_POSSIBLE, lent(1000000, 100, 200));
    }

    /** Sack 0 has flour at 1 penny a pound; some pence are missing in the purse. */
    private static SeaMill richWithFlour(int missing) {
        SeaMill mill = Mills.flour(2, 200);
        Mills.fill(mill, missing);
        return mill;
    }

    private static void purseTooGreat() {
        Check.sentence(PLEDGES, "or the purse then, would be too great");
        Twins.changes("10 pence, 10 are missing", 10, () -> richWithFlour(10), mill -> mill.pledge(0, 10));
        SeaMill mill = richWithFlour(10);
        mill.pledge(0, 10);
        Check.due("the purse is full", MAX, mill.farmerOf(0, 0));
        Twins.keeps("11 pence, 10 are missing", Check.NOT_POSSIBLE, () -> richWithFlour(10), its -> its.pledge(0, 11));
        Twins.keeps("a penny, the purse is full", Check.NOT_POSSIBLE, () -> richWithFlour(0), its -> its.pledge(0, 1));
    }

    private static void loanOfNothing() {
        Check.sentence(PLEDGES, "a loan may be 0.");
        SeaMill mill = Mills.flour(1, 10);
        mill.set(SHARE, 99);
        Mills.fill(mill, 0);
        Check.due("pledge(0, 1), by a full purse", 0, mill.pledge(0, 1));
        Check.due("pledges", 1, mill.count(6));
        Check.due("owed(0)", 0, mill.owed(0));
        Check.due("pledgeAt(0, 2)", 0, mill.pledgeAt(0, 2));
        Check.due("redeem(0)", MAX, mill.redeem(0));
        Check.due("pledges", 0, mill.count(6));
        mill = Mills.flour(1, 10);
        Twins.changes("pledge(0, 1)", 0, () -> Mills.flour(1, 10), its -> its.pledge(0, 1));
        mill.pledge(0, 1);
        Check.due("redeem(0) by an empty purse", 0, mill.redeem(0));
    }

    private static void lastDay() {
        Check.sentence(PLEDGES, "The last day of the pledge is the day plus the days of a pledge (as they are then).");
        int[] days = {1, 10, 60};
        for (int its : days) {
            SeaMill mill = Mills.flour(100, 200);
            mill.pass(93);
            mill.set(DAYS, its);
            mill.pledge(0, 1);
            mill.set(DAYS, 30);
            Check.due("its day", 1, mill.pledgeAt(0, 3));
            Check.due("its last day", 1 + its, mill.pledgeAt(0, 4));
            mill.undo();
            mill.undo();
            mill.undo();
            mill.undo();
            mill.set(DAYS, its);
            mill.pass(92);
            mill.pledge(0, 1);
            Check.due("a step before: its day", 0, mill.pledgeAt(0, 3));
            Check.due("a step before: its last day", its, mill.pledgeAt(0, 4));
        }
    }

    /** What is owed for a loan some days later. */
    private static int owed(int lent, int thousandths, int days) {
        SeaMill mill = Mills.flour(lent, 200);
        mill.set(SHARE, 100);
        mill.set(DAYS, 60);
        mill.set(INTEREST, thousandths == 0 ? 100 : 0);
        Check.due("the loan", lent, mill.pledge(0, 1));
        if (days > 0) {
            Mills.passTo(mill, days * 96);
        }
        mill.set(INTEREST, thousandths);
        return mill.owed(0);
    }

    private static void interest() {
        Check.sentence(PLEDGES, "To redeem it, the farmer pays what was lent, and an interest of (what was lent) * (the "
            + "interest, as it is when it is redeemed) * (days gone by since the day of the pledge) / 1000, multiplied "
            + "first");
        Check.due("no day", 1000, owed(1000, 100, 0));
        Check.due("a day", 1100, owed(1000, 100, 1));
        Check.due("an interest of 0", 1000, owed(1000, 0, 60));
        Check.due("60 days", 7000, owed(1000, 100, 60));
        Check.due("19 * 7 * 7 = 931", 19, owed(19, 7, 7));
        Check.due("25 * 5 * 8 = 1000, multiplied first", 26, owed(25, 5, 8));
        Check.due("27 * 37 * 1 = 999", 27, owed(27, 37, 1));
        Check.due("29 * 69 * 1 = 2001", 31, owed(29, 69, 1));
        SeaMill mill = Mills.flour(1000, 1);
        mill.set(INTEREST, 100);
        mill.pass(92);
        mill.pledge(0, 1);
        Check.due("at 95", 500, mill.owed(0));
        mill.pass(1);
        Check.due("at 96: a day has gone by", 550, mill.owed(0));
        mill.pass(95);
        Check.due("at 191", 550, mill.owed(0));
        mill.pass(1);
        Check.due("at 192", 600, mill.owed(0));
        mill.set(INTEREST, 1);
        mill.earn(0, 500);
        Check.due("redeemed by the interest as it is", 499, mill.redeem(0));
    }

    /** A pledge whose loan is a price times pounds, by an interest, after some days. */
    private static SeaMill debt(int price, int pounds, int thousandths, int days) {
        SeaMill mill = Mills.flour(price, 200);
        mill.set(SHARE, 100);
        mill.set(DAYS, 60);
        mill.set(INTEREST, thousandths);
        mill.pledge(0, pounds);
        Mills.passTo(mill, days * 96);
        return mill;
    }

    private static void owedTooGreat() {
        Check.sentence(PLEDGES, "What is owed is 2147483647 if a product for it, from the first one on (also if no day "
            + "has gone by), or the sum, would be too great; such a pledge cannot be redeemed.");
        Check.due("1049601 * 93 * 22 = 2147483646", 1049601 + 2147483, debt(49981, 21, 93, 22).owed(0));
        Check.due("1049601 * 93 * 23", MAX, debt(49981, 21, 93, 23).owed(0));
        Check.due("1048576 * 64 * 32 = 2147483648", MAX, debt(524288, 2, 64, 32).owed(0));
        Check.due("1048576 * 64 * 31", 1048576 + 2080374, debt(524288, 2, 64, 31).owed(0));
        Check.due("1048576 * 63 * 32", 1048576 + 2113929, debt(524288, 2, 63, 32).owed(0));
        // the products are 1996488704 and 738197504 more than 2^32: an int that wraps around would not show it
        Check.due("1048576 * 100 * 60", MAX, debt(524288, 2, 100, 60).owed(0));
        Check.due("1048576 * 80 * 60", MAX, debt(524288, 2, 80, 60).owed(0));
        // the greatest loan by the greatest interest: the first product is just not too great
        SeaMill mill = Mills.flour(349867, 200);
        mill.set(SHARE, 31);
        mill.set(INTEREST, 100);
        Check.due("the greatest loan", 21474836, mill.pledge(0, 198));
        Check.due("21474836 * 100 on the first day", 21474836, mill.owed(0));
        mill.pass(93);
        Check.due("21474836 * 100 * 1", 21474836 + 2147483, mill.owed(0));
        mill.pass(96);
        Check.due("21474836 * 100 * 2", MAX, mill.owed(0));
        Mills.fill(mill, 21474836);
        Check.due("the purse is full", MAX, mill.farmerOf(0, 0));
        Check.due("it cannot be redeemed", Check.NOT_POSSIBLE, mill.redeem(0));
        mill.set(INTEREST, 50);
        Check.due("by a lower interest it can", MAX - 21474836 - 2147483, mill.redeem(0));
        Twins.keeps("redeem(0)", Check.NOT_POSSIBLE, MoneySentences::richDebt, its -> its.redeem(0));
        Twins.keeps("owed(0)", MAX, MoneySentences::richDebt, its -> its.owed(0));
    }

    private static SeaMill richDebt() {
        SeaMill mill = debt(524288, 2, 64, 32);
        Mills.fill(mill, 1048576);
        return mill;
    }

    private static void redeemedFlour() {
        Check.sentence(PLEDGES, "then the pounds are flour again.");
        SeaMill mill = Mills.flour(100, 200);
        mill.pledge(0, 200);
        Check.due("no flour", 0, mill.sackOf(0, 5));
        mill.redeem(0);
        Check.due("flour", 200, mill.sackOf(0, 5));
        Check.due("in pledge", 0, mill.sackOf(0, 8));
        Check.due("fallen", 0, mill.sackOf(0, 9));
        mill.pass(200);
        Check.due("nothing falls any more", 0, mill.sackOf(0, 9));
        Check.due("fetched", 200, mill.fetch(0));
    }

    /** A mill with a pledge of 7 pounds on day 0 for these days, at this time. */
    private static SeaMill pledged(int days, int time) {
        SeaMill mill = Mills.flour(100, 200);
        mill.set(DAYS, days);
        mill.pledge(0, 7);
        Mills.passTo(mill, time);
        return mill;
    }

    private static void falling() {
        Check.sentence("A step", "If a new day begins, pledges that are not redeemed by the end of their last day fall.");
        int[] days = {1, 2, 60};
        for (int its : days) {
            SeaMill mill = pledged(its, its * 96);
            Check.due("the last day begins", 7, mill.sackOf(0, 8));
            mill = pledged(its, its * 96 + 95);
            Check.due("the end of the last day", 7, mill.sackOf(0, 8));
            Check.due("the end of the last day: owed", 350 + 350 * 5 * its / 1000, mill.owed(0));
            mill.pass(1);
            Check.due("a new day: in pledge", 0, mill.sackOf(0, 8));
            Check.due("a new day: fallen", 7, mill.sackOf(0, 9));
            mill.undo();
            mill.earn(0, 1000);
            Check.due("redeemed by its end", 1000 - 350 * 5 * its / 1000, mill.redeem(0));
            mill.pass(1);
            Check.due("redeemed: not fallen", 0, mill.sackOf(0, 9));
        }
    }

    private static void fallen() {
        Check.sentence(PLEDGES, "When a pledge falls, its pounds have fallen to the miller, the farmer owes nothing, and "
            + "the sack has no pledge.");
        SeaMill mill = pledged(1, 192);
        int[] its = {0, 0, 200, 2, 0, 193, 0, 0, 0, 7, 0, Check.NOT_FOUND};
        for (int what = 0; what <= 11; what++) {
            Check.due("sackOf(0, " + what + ")", its[what], mill.sackOf(0, what));
        }
        Check.due("owed(0)", Check.NOT_FOUND, mill.owed(0));
        Check.due("redeem(0)", Check.NOT_POSSIBLE, mill.redeem(0));
        Check.due("the purse", 350, mill.farmerOf(0, 0));
        Check.due("count(6)", 0, mill.count(6));
        Check.due("farmerOf(0, 3)", 0, mill.farmerOf(0, 3));
        Check.due("kindOf(0, 5)", 7, mill.kindOf(0, 5));
        Check.due("pledgeAt(0, 0)", Check.NOT_FOUND, mill.pledgeAt(0, 0));
        Check.due("more than is left", Check.NOT_POSSIBLE, mill.pledge(0, 194));
        Check.due("a second pledge of all that is left", 193 * 50, mill.pledge(0, 193));
        mill.pass(192);
        Check.due("it falls too", 200, mill.sackOf(0, 9));
        Check.due("nothing is left", 0, mill.fetch(0));
        Check.due("fallen pounds of a fetched sack", 200, mill.kindOf(0, 5));
    }

    private static void fallenInOneCall() {
        Check.sentence("A step", "pledges that are not redeemed by the end of their last day fall.");
        SeaMill mill = Check.fastMill(100);
        for (int sack = 0; sack < 4; sack++) {
            mill.bring(0, 0, 20);
        }
        mill.pass(4);
        int[] days = {2, 1, 1, 3};
        for (int sack = 0; sack < 4; sack++) {
            mill.set(DAYS, days[sack]);
            mill.pledge(sack, sack + 1);
        }
        mill.pass(187);
        Check.due("at 192: fallen", 2 + 3, mill.account(-1, -1, 9));
        Check.due("at 192: in pledge", 1 + 4, mill.account(-1, -1, 8));
        mill.undo();
        mill.pass(186);
        Check.due("at 191: fallen", 0, mill.account(-1, -1, 9));
        mill.pass(200);
        Check.due("at 391, two new days in one call: fallen", 1 + 2 + 3 + 4, mill.account(-1, -1, 9));
    }

    private static void pledge() {
        String heading = "Promise 17: pledge";
        Check.sentence(heading, "`sack`: number of the sack");
        Check.sentence(heading, "`pounds`: 1 to 200");
        Check.sentence(heading, "Returns the pence that are lent");
        Twins.changes("pledge(2, 1)", 500, Mills::busy, mill -> mill.pledge(2, 1));
        Twins.changes("pledge(2, 24)", 12000, Mills::busy, mill -> mill.pledge(2, 24));
        Twins.changes("pledge(0, 200)", 10000, () -> Mills.flour(100, 200), mill -> mill.pledge(0, 200));
        Check.sentence(heading, "INVALID_ARGUMENT if an argument is out of range");
        int[][] wrong = {{-1, 1}, {8, 1}, {MIN, 1}, {MAX, 1}, {2, 0}, {2, 201}, {2, -1}, {2, MIN}, {2, MAX}, {5, 0},
            {3, 201}, {0, 0}, {8, 0}};
        for (int[] its : wrong) {
            String call = "pledge(" + its[0] + ", " + its[1] + ")";
            Twins.keeps(call, Check.INVALID, Mills::busy, mill -> mill.pledge(its[0], its[1]));
        }
        Check.due("pledge(0, 1) without sacks", Check.INVALID, new SeaMill().pledge(0, 1));
        Check.sentence(heading, "NOT_POSSIBLE if the sack is not ground, is fetched, has a pledge, or has less flour, or "
            + "no loan is given.");
        Twins.keeps("pledge(5, 1), waiting", Check.NOT_POSSIBLE, Mills::busy, mill -> mill.pledge(5, 1));
        Twins.keeps("pledge(4, 1), on the stones", Check.NOT_POSSIBLE, Mills::busy, mill -> mill.pledge(4, 1));
        Twins.keeps("pledge(3, 1), fetched", Check.NOT_POSSIBLE, Mills::busy, mill -> mill.pledge(3, 1));
        Twins.keeps("pledge(7, 1), withdrawn", Check.NOT_POSSIBLE, Mills::busy, mill -> mill.pledge(7, 1));
        Twins.keeps("pledge(0, 1), has a pledge", Check.NOT_POSSIBLE, Mills::busy, mill -> mill.pledge(0, 1));
        Twins.keeps("pledge(2, 25), has 24", Check.NOT_POSSIBLE, Mills::busy, mill -> mill.pledge(2, 25));
        Twins.keeps("pledge(2, 200), has 24", Check.NOT_POSSIBLE, Mills::busy, mill -> mill.pledge(2, 200));
        Twins.keeps("pledge(0, 128), no loan", Check.NOT_POSSIBLE, MoneySentences::dearFlour,
            mill -> mill.pledge(0, 128));
    }

    private static SeaMill dearFlour() {
        SeaMill mill = Mills.flour(262144, 200);
        mill.set(SHARE, 64);
        return mill;
    }

    private static void owed() {
        String heading = "Promise 18: owed";
        Check.sentence(heading, "Tells what has to be paid now to redeem the pledge of a sack.");
        Check.sentence(heading, "Returns the pence");
        Twins.keeps("owed(0)", 500 + 500 * 5 * 2 / 1000, Mills::busy, mill -> mill.owed(0));
        Twins.keeps("owed(1)", 350, Mills::busy, mill -> mill.owed(1));
        Check.sentence(heading, "`sack`: number of the sack");
        Check.sentence(heading, "INVALID_ARGUMENT");
        for (int wrong : new int[] {-1, 8, MIN, MAX}) {
            Twins.keeps("owed(" + wrong + ")", Check.INVALID, Mills::busy, mill -> mill.owed(wrong));
        }
        Check.due("owed(0) without sacks", Check.INVALID, new SeaMill().owed(0));
        Check.sentence(heading, "NOT_FOUND if it has no pledge.");
        int[] without = {2, 3, 4, 5, 7};
        for (int sack : without) {
            Twins.keeps("owed(" + sack + ")", Check.NOT_FOUND, Mills::busy, mill -> mill.owed(sack));
        }
        SeaMill mill = Mills.flour(100, 9);
        Check.due("before", Check.NOT_FOUND, mill.owed(0));
        mill.pledge(0, 1);
        mill.redeem(0);
        Check.due("redeemed", Check.NOT_FOUND, mill.owed(0));
    }

    /** A pledge of 1000 pence for which 1100 are owed, and so many in the purse. */
    private static SeaMill purse(int pence) {
        SeaMill mill = Mills.flour(1000, 200);
        mill.set(INTEREST, 100);
        mill.pledge(0, 2);
        mill.pass(93);
        if (pence > 1000) {
            mill.earn(0, pence - 1000);
        }
        return mill;
    }

    private static void redeem() {
        String heading = "Promise 19: redeem";
        Check.sentence(heading, "Returns the purse then");
        Twins.changes("redeem(0) by 1100", 0, () -> purse(1100), mill -> mill.redeem(0));
        Twins.changes("redeem(0) by 1101", 1, () -> purse(1101), mill -> mill.redeem(0));
        Twins.changes("redeem(1)", 0, Mills::busy, mill -> mill.redeem(1));
        Check.sentence(heading, "`sack`: number of the sack");
        Check.sentence(heading, "INVALID_ARGUMENT");
        for (int wrong : new int[] {-1, 8, MIN, MAX}) {
            Twins.keeps("redeem(" + wrong + ")", Check.INVALID, Mills::busy, mill -> mill.redeem(wrong));
        }
        Check.due("redeem(0) without sacks", Check.INVALID, new SeaMill().redeem(0));
        Check.sentence(heading, "NOT_POSSIBLE if it has no pledge, what is owed is 2147483647, or the purse has less.");
        int[] without = {2, 3, 4, 5, 7};
        for (int sack : without) {
            Twins.keeps("redeem(" + sack + ")", Check.NOT_POSSIBLE, Mills::busy, mill -> mill.redeem(sack));
        }
        Twins.keeps("redeem(0) by a full purse", Check.NOT_POSSIBLE, MoneySentences::richDebt, mill -> mill.redeem(0));
        Twins.keeps("redeem(0) by 1099", Check.NOT_POSSIBLE, () -> purse(1099), mill -> mill.redeem(0));
        Twins.keeps("redeem(0) by 1000", Check.NOT_POSSIBLE, () -> purse(1000), mill -> mill.redeem(0));
        SeaMill mill = purse(1100);
        mill.redeem(0);
        Check.due("redeem(0) again", Check.NOT_POSSIBLE, mill.redeem(0));
    }

    private static void pledgeAt() {
        String heading = "Promise 20: pledgeAt";
        Check.sentence(heading, "`index`: 0 for the first one, and so on");
        Check.sentence(heading, "Returns the number");
        Check.sentence(heading, "`what`: 0: the sack; 1: its pounds; 2: what was lent; 3: its day; 4: its last day");
        int[][] its = {{1, 7, 350, 2, 3}, {0, 10, 500, 0, 30}};
        for (int index = 0; index <= 1; index++) {
            for (int what = 0; what <= 4; what++) {
                int place = index;
                int which = what;
                String call = "pledgeAt(" + index + ", " + what + ")";
                Twins.keeps(call, its[index][what], Mills::busy, mill -> mill.pledgeAt(place, which));
            }
        }
        Check.sentence(heading, "INVALID_ARGUMENT if index is negative or what is out of range");
        int[][] wrong = {{-1, 0}, {MIN, 0}, {0, -1}, {0, 5}, {0, MIN}, {0, MAX}, {2, 5}, {-1, 5}};
        for (int[] a : wrong) {
            String call = "pledgeAt(" + a[0] + ", " + a[1] + ")";
            Twins.keeps(call, Check.INVALID, Mills::busy, mill -> mill.pledgeAt(a[0], a[1]));
        }
        Check.sentence(heading, "NOT_FOUND if there are not so many.");
        Twins.keeps("pledgeAt(2, 0) of 2", Check.NOT_FOUND, Mills::busy, mill -> mill.pledgeAt(2, 0));
        Twins.keeps("pledgeAt(2, 4) of 2", Check.NOT_FOUND, Mills::busy, mill -> mill.pledgeAt(2, 4));
        Twins.keeps("pledgeAt(MAX, 0)", Check.NOT_FOUND, Mills::busy, mill -> mill.pledgeAt(MAX, 0));
        Check.due("pledgeAt(0, 0) of none", Check.NOT_FOUND, new SeaMill().pledgeAt(0, 0));
        Check.due("pledgeAt(0, 0), sacks without pledges", Check.NOT_FOUND, Mills.full().pledgeAt(0, 0));
    }

    private static void manyPledges() {
        Check.sentence("Promise 20: pledgeAt", "pledges are in order by their last days, then by numbers of sacks.");
        SeaMill mill = Check.fastMill(100);
        for (int sack = 0; sack < 24; sack++) {
            mill.bring(0, 0, 9);
        }
        mill.pass(24);
        for (int sack = 23; sack >= 0; sack--) {
            mill.set(DAYS, 3 - sack % 3);
            mill.pledge(sack, 1 + sack % 9);
        }
        for (int index = 0; index < 24; index++) {
            int sack = index % 8 * 3 + 2 - index / 8;
            Check.due("the sack at " + index, sack, mill.pledgeAt(index, 0));
            Check.due("its pounds", 1 + sack % 9, mill.pledgeAt(index, 1));
            Check.due("its last day", 1 + index / 8, mill.pledgeAt(index, 4));
        }
        Check.due("pledgeAt(24, 0) of 24", Check.NOT_FOUND, mill.pledgeAt(24, 0));
        Check.due("count(6)", 24, mill.count(6));
        Check.due("farmerOf(0, 3)", 24, mill.farmerOf(0, 3));
        mill.pass(167);
        Check.due("at 192: the first 8 have fallen", 16, mill.count(6));
        Check.due("the first one then", 1, mill.pledgeAt(0, 0));
        Check.due("pledgeAt(16, 0) of 16", Check.NOT_FOUND, mill.pledgeAt(16, 0));
        // one of an earlier day with the same last day: the number of the sack tells alone
        mill = Check.fastMill(100);
        mill.bring(0, 0, 9);
        mill.bring(0, 0, 9);
        mill.pass(2);
        mill.set(DAYS, 2);
        mill.pledge(1, 5);
        mill.pass(96);
        mill.set(DAYS, 1);
        mill.pledge(0, 6);
        Check.due("the lesser number, though it came later", 0, mill.pledgeAt(0, 0));
        Check.due("the greater number", 1, mill.pledgeAt(1, 0));
    }
}
