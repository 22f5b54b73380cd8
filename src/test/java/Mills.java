/** Mills that the sentences are tried on. */
final class Mills {
    static final int MOST = 2147483647;

    private Mills() {
    }

    /**
     * At time 196 on day 2, with sacks in every stage. Sacks 0 and 1 are ground and have pledges (10 pounds, day 0,
     * last day 30; 7 pounds, day 2, last day 3), 2 is ground and 5 pounds of it have fallen, 3 is fetched, 4 is on the
     * stones with 70 of 170 pounds left, 5 and 6 wait, 7 was withdrawn. The level is 100, the sea stands at 0. The text
     * has a fault of reason 3 at 3.
     */
    static SeaMill busy() {
        SeaMill mill = Check.fastMill(100);
        mill.kind(2, 20, 1000);
        mill.farmer();
        mill.farmer();
        mill.bring(0, 0, 50);
        mill.bring(1, 0, 60);
        mill.bring(2, 1, 40);
        mill.bring(0, 0, 30);
        mill.bring(1, 0, 170);
        mill.bring(2, 1, 20);
        mill.bring(0, 1, 9);
        mill.bring(1, 0, 8);
        mill.pass(5);
        mill.fetch(3);
        mill.withdraw(7);
        mill.set(10, 30);
        mill.pledge(0, 10);
        mill.set(10, 1);
        mill.pledge(2, 5);
        mill.gate(0);
        mill.pass(190);
        mill.gate(1);
        mill.pledge(1, 7);
        mill.earn(2, 99);
        Check.type(mill, "g2;r0;");
        return mill;
    }

    /** At time 60 with a pond that fills and leaks, a gate that takes water, and a sack on the stones. */
    static SeaMill tidal() {
        SeaMill mill = new SeaMill();
        mill.kind(2, 10, 100);
        mill.kind(5, 5, 30);
        mill.farmer();
        mill.farmer();
        for (int sack = 0; sack < 6; sack++) {
            mill.bring(sack % 2, sack / 2 % 2, 200 - sack);
        }
        mill.set(7, 50);
        mill.set(12, 2);
        mill.gate(2);
        mill.pass(60);
        return mill;
    }

    /**
     * At time 2 by the rule of kinds: a sack of kind 0, the hardest, is on the stones, and after it sack 3 of this kind,
     * 2 and 4 of kind 1 and 1 of kind 2 come on them.
     */
    static SeaMill byKinds() {
        SeaMill mill = Check.flatMill(100);
        mill.farmer();
        mill.kind(9, 0, 1);
        mill.kind(1, 0, 1);
        mill.kind(5, 0, 1);
        int[] kinds = {0, 2, 1, 0, 1};
        for (int kind : kinds) {
            mill.bring(0, kind, 50);
        }
        mill.gate(3);
        mill.pass(1);
        mill.set(12, 3);
        return mill;
    }

    /** 6 kinds, 8 farmers and 24 sacks, all waiting; sack n has n + 1 pounds. */
    static SeaMill full() {
        SeaMill mill = new SeaMill();
        for (int kind = 0; kind < 6; kind++) {
            mill.kind(kind + 1, kind, kind + 100);
        }
        for (int farmer = 0; farmer < 8; farmer++) {
            mill.farmer();
        }
        for (int sack = 0; sack < 24; sack++) {
            mill.bring(sack % 8, sack % 6, sack + 1);
        }
        return mill;
    }

    /** A text of 60 characters without a fault. */
    static SeaMill fullText() {
        SeaMill mill = new SeaMill();
        Check.type(mill, "g1;".repeat(20));
        return mill;
    }

    /** A farmer whose purse is full but for some pence. */
    static SeaMill rich(int missing) {
        SeaMill mill = new SeaMill();
        mill.farmer();
        fill(mill, missing);
        return mill;
    }

    /** Fills the empty purse of farmer 0 but for some pence. */
    static void fill(SeaMill mill, int missing) {
        mill.earn(0, 1000000000);
        mill.earn(0, 1000000000);
        mill.earn(0, MOST - 2000000000 - missing);
    }

    /** At time 3 sack 0, of these pounds, is ground without toll and dust; the gate is open by 1. */
    static SeaMill flour(int price, int pounds) {
        SeaMill mill = Check.fastMill(price);
        mill.set(8, 0);
        mill.bring(0, 0, pounds);
        mill.pass(2);
        return mill;
    }

    /** A flat mill of this level with a kind without dust, and a farmer. */
    static SeaMill stones(int level, int hardness) {
        SeaMill mill = Check.flatMill(level);
        mill.kind(hardness, 0, 1);
        mill.farmer();
        return mill;
    }

    /** A new mill at this time, by steps of 200 as far as they go. */
    static SeaMill at(int time) {
        SeaMill mill = new SeaMill();
        passTo(mill, time);
        return mill;
    }

    static void passTo(SeaMill mill, int time) {
        for (int left = time - mill.count(7); left > 0; left -= 200) {
            mill.pass(Math.min(left, 200));
        }
    }

    static SeaMill withText(SeaMill mill, String text) {
        Check.type(mill, text);
        return mill;
    }
}
