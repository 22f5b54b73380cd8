/** Promises 16 to 20: earn, pledge, owed, redeem, pledgeAt. */
public final class MoneyTest {
    private static final int GREATEST = 2147483647;

    private MoneyTest() {
    }

    public static void main(String[] arguments) {
        earn();
        pledge();
        pledgeRefused();
        loanTooGreat();
        purseTooGreat();
        loanOfNothing();
        owed();
        owedTooGreat();
        redeem();
        fall();
        pledgeAt();
        Check.end("MoneyTest");
    }

    /** A fast mill in which sack 0, of these pounds, is ground without toll. */
    private static SeaMill millWithFlour(int price, int pounds) {
        SeaMill mill = Check.fastMill(price);
        mill.set(8, 0);
        mill.bring(0, 0, pounds);
        mill.pass(2);
        return mill;
    }

    private static void earn() {
        SeaMill mill = new SeaMill();
        Check.due("nobody", Check.INVALID, mill.earn(0, 1));
        mill.farmer();
        mill.farmer();
        Check.due("earn(-1, 1)", Check.INVALID, mill.earn(-1, 1));
        Check.due("earn(2, 1)", Check.INVALID, mill.earn(2, 1));
        Check.due("earn(0, 0)", Check.INVALID, mill.earn(0, 0));
        Check.due("earn(0, 1000000001)", Check.INVALID, mill.earn(0, 1000000001));
        Check.due("earn(0, MIN)", Check.INVALID, mill.earn(0, Integer.MIN_VALUE));
        Check.due("no change", 2, mill.count(9));
        Check.due("earn(0, 1)", 1, mill.earn(0, 1));
        Check.due("earn(1, 7)", 7, mill.earn(1, 7));
        Check.due("earn(0, 1000000000)", 1000000001, mill.earn(0, 1000000000));
        Check.due("earn(0, 1000000000)", 2000000001, mill.earn(0, 1000000000));
        Check.due("one too much", Check.NOT_POSSIBLE, mill.earn(0, 147483647));
        Check.due("purse is kept", 2000000001, mill.farmerOf(0, 0));
        Check.due("the most", GREATEST, mill.earn(0, 147483646));
        Check.due("one more", Check.NOT_POSSIBLE, mill.earn(0, 1));
        Check.due("out of range all the same", Check.INVALID, mill.earn(0, 0));
        Check.due("the other purse", 7, mill.farmerOf(1, 0));
    }

    private static void pledge() {
        SeaMill mill = millWithFlour(13, 150);
        mill.set(11, 33);
        Check.due("pledge(0, 7)", 7 * 13 * 33 / 100, mill.pledge(0, 7));
        Check.due("purse", 30, mill.farmerOf(0, 0));
        Check.due("in pledge", 7, mill.sackOf(0, 8));
        Check.due("flour", 143, mill.sackOf(0, 5));
        Check.due("pledges", 1, mill.count(6));
        mill.set(11, 100);
        Check.due("lent once and for all", 30, mill.owed(0));
        Check.due("has a pledge", Check.NOT_POSSIBLE, mill.pledge(0, 1));
        mill.redeem(0);
        Check.due("all of it", 150 * 13, mill.pledge(0, 150));
        Check.due("no flour is left", 0, mill.sackOf(0, 5));
    }

    private static void pledgeRefused() {
        SeaMill mill = Check.fastMill(100);
        mill.bring(0, 0, 50);
        mill.bring(0, 0, 150);
        mill.bring(0, 0, 60);
        Check.due("waiting", Check.NOT_POSSIBLE, mill.pledge(0, 1));
        mill.pass(2);
        Check.due("on the stones", Check.NOT_POSSIBLE, mill.pledge(1, 1));
        Check.due("pledge(-1, 1)", Check.INVALID, mill.pledge(-1, 1));
        Check.due("pledge(3, 1)", Check.INVALID, mill.pledge(3, 1));
        Check.due("pledge(0, 0)", Check.INVALID, mill.pledge(0, 0));
        Check.due("pledge(0, 201)", Check.INVALID, mill.pledge(0, 201));
        Check.due("pledge(0, MIN)", Check.INVALID, mill.pledge(0, Integer.MIN_VALUE));
        Check.due("pledge(2, 201), not ground", Check.INVALID, mill.pledge(2, 201));
        Check.due("pledge(0, 200)", Check.NOT_POSSIBLE, mill.pledge(0, 200));
        Check.due("toll is no flour", Check.NOT_POSSIBLE, mill.pledge(0, 46));
        Check.due("no change", 0, mill.farmerOf(0, 0));
        Check.due("all flour", 45 * 50, mill.pledge(0, 45));
        mill.redeem(0);
        mill.fetch(0);
        Check.due("fetched", Check.NOT_POSSIBLE, mill.pledge(0, 1));
    }

    private static void loanTooGreat() {
        // 198 * 349867 * 31 = 2147483646, and 128 * 262144 * 64 = 2147483648
        SeaMill mill = millWithFlour(349867, 200);
        mill.set(11, 31);
        Check.due("the product is too great", Check.NOT_POSSIBLE, mill.pledge(0, 199));
        Check.due("no pledge", 0, mill.count(6));
        Check.due("the product is just not too great", 21474836, mill.pledge(0, 198));
        mill = millWithFlour(262144, 200);
        mill.set(11, 64);
        Check.due("the product is too great by one", Check.NOT_POSSIBLE, mill.pledge(0, 128));
        Check.due("one pound less", 21307064, mill.pledge(0, 127));
        mill = millWithFlour(1000000, 200);
        mill.set(11, 100);
        Check.due("by far too great", Check.NOT_POSSIBLE, mill.pledge(0, 200));
        Check.due("21 pounds", 21000000, mill.pledge(0, 21));
    }

    private static void purseTooGreat() {
        SeaMill mill = millWithFlour(100, 200);
        mill.earn(0, 1000000000);
        mill.earn(0, 1000000000);
        mill.earn(0, GREATEST - 2000000000 - 500);
        Check.due("the purse would be too great", Check.NOT_POSSIBLE, mill.pledge(0, 11));
        Check.due("no pledge", 0, mill.sackOf(0, 8));
        Check.due("the purse is full", 500, mill.pledge(0, 10));
        Check.due("purse", GREATEST, mill.farmerOf(0, 0));
    }

    private static void loanOfNothing() {
        SeaMill mill = millWithFlour(1, 10);
        Check.due("nothing is lent", 0, mill.pledge(0, 1));
        Check.due("a pledge all the same", 1, mill.count(6));
        Check.due("nothing is owed", 0, mill.owed(0));
        Check.due("no fetching", Check.NOT_POSSIBLE, mill.fetch(0));
        Check.due("redeemed for nothing", 0, mill.redeem(0));
        Check.due("no pledge any more", 0, mill.count(6));
    }

    private static void owed() {
        SeaMill mill = millWithFlour(100, 200);
        Check.due("owed(-1)", Check.INVALID, mill.owed(-1));
        Check.due("owed(1)", Check.INVALID, mill.owed(1));
        Check.due("no pledge", Check.NOT_FOUND, mill.owed(0));
        mill.pass(90);
        mill.pledge(0, 15);
        Check.due("at once", 750, mill.owed(0));
        mill.pass(2);
        Check.due("time", 95, mill.count(7));
        Check.due("the same day", 750, mill.owed(0));
        mill.pass(1);
        Check.due("a day", 753, mill.owed(0));
        mill.pass(192);
        Check.due("three days", 750 + 750 * 5 * 3 / 1000, mill.owed(0));
        mill.set(9, 100);
        Check.due("by the interest as it is", 975, mill.owed(0));
        mill.set(9, 0);
        Check.due("no interest", 750, mill.owed(0));
        Check.due("telling changes nothing", 4, mill.count(9));
        mill.redeem(0);
        Check.due("redeemed", Check.NOT_FOUND, mill.owed(0));
    }

    private static void owedTooGreat() {
        SeaMill mill = millWithFlour(349867, 200);
        mill.set(11, 31);
        mill.set(9, 50);
        mill.pledge(0, 198);
        mill.earn(0, 1000000000);
        mill.pass(192);
        Check.due("two days by 50", 21474836 + 2147483, mill.owed(0));
        mill.set(9, 51);
        Check.due("two days by 51", GREATEST, mill.owed(0));
        Check.due("cannot be redeemed", Check.NOT_POSSIBLE, mill.redeem(0));
        Check.due("the pledge stays", 198, mill.sackOf(0, 8));
        mill.earn(0, 1000000000);
        mill.earn(0, GREATEST - 2000000000 - 21474836);
        Check.due("not by the fullest purse", Check.NOT_POSSIBLE, mill.redeem(0));
        mill.set(9, 50);
        Check.due("redeemed by 50", GREATEST - 21474836 - 2147483, mill.redeem(0));
        mill = millWithFlour(349867, 200);
        mill.set(11, 31);
        mill.set(9, 100);
        mill.pledge(0, 198);
        Check.due("no day by 100", 21474836, mill.owed(0));
        mill.pass(96);
        Check.due("a day by 100", 21474836 + 2147483, mill.owed(0));
    }

    private static void redeem() {
        SeaMill mill = millWithFlour(100, 200);
        Check.due("redeem(-1)", Check.INVALID, mill.redeem(-1));
        Check.due("redeem(1)", Check.INVALID, mill.redeem(1));
        Check.due("no pledge", Check.NOT_POSSIBLE, mill.redeem(0));
        mill.pledge(0, 10);
        mill.set(9, 100);
        mill.pass(96);
        mill.earn(0, 49);
        Check.due("a penny is missing", Check.NOT_POSSIBLE, mill.redeem(0));
        Check.due("purse is kept", 549, mill.farmerOf(0, 0));
        mill.earn(0, 1);
        Check.due("just enough", 0, mill.redeem(0));
        Check.due("flour again", 200, mill.sackOf(0, 5));
        Check.due("not in pledge", 0, mill.sackOf(0, 8));
        Check.due("not fallen", 0, mill.sackOf(0, 9));
        Check.due("redeem(0) again", Check.NOT_POSSIBLE, mill.redeem(0));
        mill.set(9, 0);
        mill.pledge(0, 20);
        mill.earn(0, 5);
        Check.due("the rest stays in the purse", 5, mill.redeem(0));
    }

    private static void fall() {
        SeaMill mill = millWithFlour(100, 200);
        mill.set(10, 1);
        mill.pledge(0, 30);
        mill.set(10, 60);
        mill.pass(188);
        Check.due("time", 191, mill.count(7));
        Check.due("its last day", 30, mill.sackOf(0, 8));
        mill.pass(1);
        Check.due("in pledge", 0, mill.sackOf(0, 8));
        Check.due("fallen", 30, mill.sackOf(0, 9));
        Check.due("flour", 170, mill.sackOf(0, 5));
        Check.due("no pledge", Check.NOT_FOUND, mill.owed(0));
        Check.due("pledges", 0, mill.count(6));
        Check.due("nothing is owed", 1500, mill.farmerOf(0, 0));
        Check.due("nothing to redeem", Check.NOT_POSSIBLE, mill.redeem(0));
        mill.set(10, 1);
        Check.due("more than is left", Check.NOT_POSSIBLE, mill.pledge(0, 171));
        Check.due("a second pledge", 8500, mill.pledge(0, 170));
        Check.due("its last day", 3, mill.pledgeAt(0, 4));
        mill.pass(191);
        Check.due("not yet", 30, mill.sackOf(0, 9));
        mill.pass(1);
        Check.due("both have fallen", 200, mill.sackOf(0, 9));
    }

    private static void pledgeIs(SeaMill mill, int index, int... its) {
        for (int what = 0; what <= 4; what++) {
            Check.due("pledgeAt(" + index + ", " + what + ")", its[what], mill.pledgeAt(index, what));
        }
    }

    private static void pledgeAt() {
        SeaMill mill = Check.fastMill(100);
        for (int i = 0; i < 4; i++) {
            mill.bring(0, 0, 50);
        }
        mill.pass(4);
        Check.due("none", Check.NOT_FOUND, mill.pledgeAt(0, 0));
        mill.set(10, 3);
        mill.pledge(3, 4);
        mill.set(10, 2);
        mill.pledge(2, 3);
        mill.pass(96);
        mill.pledge(1, 2);
        mill.set(10, 60);
        mill.pledge(0, 1);
        pledgeIs(mill, 0, 2, 3, 150, 0, 2);
        pledgeIs(mill, 1, 1, 2, 100, 1, 3);
        pledgeIs(mill, 2, 3, 4, 200, 0, 3);
        pledgeIs(mill, 3, 0, 1, 50, 1, 61);
        Check.due("pledgeAt(4, 0)", Check.NOT_FOUND, mill.pledgeAt(4, 0));
        Check.due("pledgeAt(MAX, 4)", Check.NOT_FOUND, mill.pledgeAt(Integer.MAX_VALUE, 4));
        Check.due("pledgeAt(-1, 0)", Check.INVALID, mill.pledgeAt(-1, 0));
        Check.due("pledgeAt(0, -1)", Check.INVALID, mill.pledgeAt(0, -1));
        Check.due("pledgeAt(0, 5)", Check.INVALID, mill.pledgeAt(0, 5));
        Check.due("pledgeAt(4, 5)", Check.INVALID, mill.pledgeAt(4, 5));
        mill.redeem(1);
        pledgeIs(mill, 1, 3, 4, 200, 0, 3);
        pledgeIs(mill, 2, 0, 1, 50, 1, 61);
        mill.pass(192);
        pledgeIs(mill, 0, 3, 4, 200, 0, 3);
        mill.pass(96);
        pledgeIs(mill, 0, 0, 1, 50, 1, 61);
        Check.due("pledges", 1, mill.count(6));
    }
}
