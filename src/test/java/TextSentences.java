/** The boundary cases of "Texts" and promises 29 to 32. */
final class TextSentences {
    private static final String TEXTS = "Texts";
    private static final String FORM = "orders, each followed by \";\": \"b\" a farmer \",\" a kind \",\" pounds (a sack is "
        + "brought), \"f\" a sack (it is fetched), \"p\" a sack \",\" pounds (they are put in pledge), \"r\" a sack (it is "
        + "redeemed), or \"g\" an opening (the mill gate gets it)";
    private static final int NOT_OF_FORM = 1;
    private static final int NO_SUCH = 2;
    private static final int REFUSED = 3;

    private TextSentences() {
    }

    static void all() {
        textAtFirst();
        ordersOfForm();
        ordersNotOfForm();
        digits();
        positions();
        orderCutOff();
        noSuch();
        refused();
        reasonsInOrder();
        ordersAhead();
        type();
        clearText();
        fault();
        play();
        sackBroughtByPlay();
        playOfAFault();
        playAsOneChange();
    }

    /** The busy mill with another text. */
    private static SeaMill mill(String text) {
        SeaMill mill = Mills.busy();
        mill.clearText();
        return Mills.withText(mill, text);
    }

    private static void faultIs(String text, int position, int reason) {
        Check.due("fault(0) of " + text, position, mill(text).fault(0));
        Check.due("fault(1) of " + text, reason, mill(text).fault(1));
        Check.due("play() of " + text, Check.NOT_POSSIBLE, mill(text).play());
    }

    private static void hasNone(String text, int orders) {
        SeaMill mill = mill(text);
        Check.due("fault(0) of " + text, Check.NOT_FOUND, mill.fault(0));
        Check.due("fault(1) of " + text, Check.NOT_FOUND, mill.fault(1));
        Check.due("play() of " + text, orders, mill.play());
    }

    private static void textAtFirst() {
        Check.sentence(TEXTS, "There is a text of at most 60 characters, initially empty");
        SeaMill mill = new SeaMill();
        Check.due("its length at first", 0, mill.count(10));
        Check.due("its fault at first", Check.NOT_FOUND, mill.fault(0));
        mill = Mills.fullText();
        Check.due("its length", 60, mill.count(10));
        Check.due("one more", Check.LIMIT, mill.type('g'));
        Check.due("20 orders", 20, mill.play());
    }

    private static void ordersOfForm() {
        Check.sentence(TEXTS, FORM);
        SeaMill mill = mill("b2,1,200;");
        Check.due("a sack is brought", 1, mill.play());
        int[] brought = {2, 1, 200, 0};
        for (int what = 0; what <= 3; what++) {
            Check.due("sackOf(8, " + what + ")", brought[what], mill.sackOf(8, what));
        }
        mill = mill("f2;");
        Check.due("it is fetched", 1, mill.play());
        Check.due("sackOf(2, 10)", 24, mill.sackOf(2, 10));
        mill = mill("p2,24;");
        Check.due("they are put in pledge", 1, mill.play());
        Check.due("sackOf(2, 8)", 24, mill.sackOf(2, 8));
        Check.due("farmerOf(2, 0)", 2599 + 12000, mill.farmerOf(2, 0));
        mill = mill("r1;");
        Check.due("it is redeemed", 1, mill.play());
        Check.due("sackOf(1, 8)", 0, mill.sackOf(1, 8));
        Check.due("farmerOf(1, 0)", 0, mill.farmerOf(1, 0));
        mill = mill("g3;");
        Check.due("the mill gate gets it", 1, mill.play());
        Check.due("pond(4)", 3, mill.pond(4));
        hasNone("g0;", 1);
        hasNone("b0,0,1;b0,0,1;", 2);
    }

    private static void ordersNotOfForm() {
        Check.sentence(TEXTS, "its reason is 1 if it is not of this form, its \";\" included");
        String[] texts = {";", " ", ",", "1", "1;", "~", "g", "b", "f", "p", "r", "g1", "g1,", "g1 ", "g 1;", " g1;", "g1 ;",
            "G1;", "B0,0,1;", "h1;", "a0,0,1;", "c0,0,1;", "g-1;", "g+1;", "g1:", "g1.", "g/;", "g:;", "gg1;", "g1,1;",
            "b0", "b0,", "b0,0", "b0,0,", "b0,0,1", "b0;", "b0,0;", "b0,0,1,1;", "b0,0,1,;", "b,0,1;", "b0,,1;", "b0,0,;",
            "b0.0,1;", "b0,0.1;", "b0;0,1;", "b0,0;1;", "b0 ,0,1;", "b0, 0,1;", "f2", "f2,", "f2,1;", "f;", "p2", "p2,",
            "p2,1", "p2;", "p2,1,1;", "p,1;", "p2,;", "p2.1;", "r1", "r1,1;", "r;", "b0,0,1:", "f2:", "p2,1:", "r1:"};
        for (String text : texts) {
            faultIs(text, 0, NOT_OF_FORM);
            faultIs("g1;" + text, 3, NOT_OF_FORM);
        }
        Twins.keeps("play() of g2;g3", Check.NOT_POSSIBLE, () -> mill("g2;g3"), SeaMill::play);
    }

    private static void digits() {
        Check.sentence(TEXTS, "all numbers of 1 to 3 digits, 0 ahead allowed.");
        String[] right = {"b0,0,1;", "b002,001,001;", "b02,01,200;", "b2,1,020;", "f2;", "f02;", "f002;", "p2,1;", "p2,24;",
            "p002,024;", "p02,001;", "r1;", "r01;", "r001;", "g3;", "g03;", "g003;", "g000;"};
        for (String text : right) {
            hasNone(text, 1);
        }
        String[] none = {"b,0,1;", "b0,,1;", "b0,0,;", "f;", "p,1;", "p2,;", "r;", "g;"};
        String[] four = {"b0000,0,1;", "b0,0000,1;", "b0,0,0001;", "f0002;", "p0002,1;", "p2,0001;", "r0001;", "g0001;",
            "g0000;", "g1000;"};
        for (String text : none) {
            faultIs(text, 0, NOT_OF_FORM);
        }
        for (String text : four) {
            faultIs(text, 0, NOT_OF_FORM);
        }
        faultIs("g999;", 0, REFUSED);
        faultIs("f999;", 0, NO_SUCH);
        faultIs("f100;", 0, NO_SUCH);
        faultIs("f020;", 0, NO_SUCH);
        SeaMill mill = mill("b0,0,123;");
        mill.play();
        Check.due("the digits in their order", 123, mill.sackOf(8, 2));
        mill = Mills.withText(Mills.flour(1, 200), "p000,089;");
        mill.play();
        Check.due("089 is no number of eights", 89, mill.sackOf(0, 8));
    }

    private static void positions() {
        Check.sentence(TEXTS, "The fault of the text is the position, from 0, of the first character of the first order "
            + "that is not possible");
        faultIs("g4;", 0, REFUSED);
        faultIs("g4;g5;", 0, REFUSED);
        faultIs("g3;g4;g5;", 3, REFUSED);
        faultIs("b0,0,1;g4;x", 7, REFUSED);
        faultIs("b000,000,001;f8;", 13, REFUSED);
        faultIs("g1;".repeat(19) + "g4;", 57, REFUSED);
        faultIs("g1;".repeat(19) + "f8;", 57, NO_SUCH);
        hasNone("g1;".repeat(19) + "g3;", 20);
        faultIs("g1;".repeat(17) + "g01;g01;;", 59, NOT_OF_FORM);
        faultIs("g1;".repeat(17) + "g01;g01;g", 59, NOT_OF_FORM);
        hasNone("g1;".repeat(16) + "g001;g02;g3;", 19);
        faultIs("x" + ";".repeat(59), 0, NOT_OF_FORM);
    }

    private static void orderCutOff() {
        Check.sentence(TEXTS, "its \";\" included");
        String ahead = "g1;".repeat(18);
        faultIs(ahead + "b0,0,1", 54, NOT_OF_FORM);
        faultIs(ahead + "g1;g", 57, NOT_OF_FORM);
        faultIs(ahead + "g01;g1", 58, NOT_OF_FORM);
        faultIs(ahead + "p02,01", 54, NOT_OF_FORM);
        faultIs(ahead + "g1;g33", 57, NOT_OF_FORM);
        hasNone(ahead + "p2,01;", 19);
        // what an earlier, longer text left behind is no part of the text
        SeaMill mill = mill("g1;g2;");
        mill.clearText();
        Check.type(mill, "g1");
        Check.due("fault(0) of g1 after g1;g2;", 0, mill.fault(0));
        Check.due("fault(1) of g1 after g1;g2;", NOT_OF_FORM, mill.fault(1));
        Check.type(mill, ";");
        Check.due("fault(0) of g1; after g1;g2;", Check.NOT_FOUND, mill.fault(0));
        Check.due("play() of g1; after g1;g2;", 1, mill.play());
    }

    private static void noSuch() {
        Check.sentence(TEXTS, "2 if there is no such farmer, kind or sack");
        hasNone("b2,0,1;", 1);
        faultIs("b3,0,1;", 0, NO_SUCH);
        hasNone("b0,1,1;", 1);
        faultIs("b0,2,1;", 0, NO_SUCH);
        faultIs("b999,999,1;", 0, NO_SUCH);
        faultIs("f7;", 0, REFUSED);
        faultIs("f8;", 0, NO_SUCH);
        faultIs("p7,1;", 0, REFUSED);
        faultIs("p8,1;", 0, NO_SUCH);
        faultIs("r7;", 0, REFUSED);
        faultIs("r8;", 0, NO_SUCH);
        SeaMill mill = Mills.withText(new SeaMill(), "b0,0,1;");
        Check.due("no farmer, no kind", NO_SUCH, mill.fault(1));
        mill.farmer();
        Check.due("no kind", NO_SUCH, mill.fault(1));
        mill.undo();
        mill.kind(1, 0, 1);
        Check.due("no farmer", NO_SUCH, mill.fault(1));
        mill.farmer();
        Check.due("both", Check.NOT_FOUND, mill.fault(1));
        String[] orders = {"f0;", "p0,1;", "r0;"};
        for (String text : orders) {
            Check.due(text + " without sacks", NO_SUCH, Mills.withText(new SeaMill(), text).fault(1));
        }
        Check.due("g0; needs none", Check.NOT_FOUND, Mills.withText(new SeaMill(), "g0;").fault(1));
    }

    private static void refused() {
        Check.sentence(TEXTS, "and 3 if it is not possible otherwise (by what bring, fetch, pledge, redeem and gate tell)");
        hasNone("b0,0,1;", 1);
        faultIs("b0,0,0;", 0, REFUSED);
        faultIs("b0,0,000;", 0, REFUSED);
        hasNone("b0,0,200;", 1);
        faultIs("b0,0,201;", 0, REFUSED);
        faultIs("b0,0,999;", 0, REFUSED);
        hasNone("g3;", 1);
        faultIs("g4;", 0, REFUSED);
        String[] fetches = {"f5;", "f4;", "f3;", "f7;", "f0;"};
        String[] pledges = {"p5,1;", "p4,1;", "p3,1;", "p7,1;", "p0,1;", "p2,25;", "p2,0;", "p2,201;", "p2,999;"};
        String[] redeems = {"r2;", "r3;", "r4;", "r5;", "r7;", "r0;"};
        for (String[] texts : new String[][] {fetches, pledges, redeems}) {
            for (String text : texts) {
                faultIs(text, 0, REFUSED);
            }
        }
        hasNone("f2;", 1);
        hasNone("p2,24;", 1);
        hasNone("r1;", 1);
        Check.due("b0,0,1; with 24 sacks", REFUSED, Mills.withText(Mills.full(), "b0,0,1;").fault(1));
        SeaMill dear = Mills.flour(262144, 200);
        dear.set(11, 64);
        Check.type(dear, "p0,128;");
        Check.due("p0,128;, no loan is given", REFUSED, dear.fault(1));
        dear.clearText();
        Check.type(dear, "p0,127;");
        Check.due("p0,127;", Check.NOT_FOUND, dear.fault(1));
    }

    private static void reasonsInOrder() {
        Check.sentence(TEXTS, "its reason is 1 if it is not of this form, its \";\" included, 2 if there is no such farmer, "
            + "kind or sack, and 3 if it is not possible otherwise");
        faultIs("b3,2,0", 0, NOT_OF_FORM);
        faultIs("b3,2,0;", 0, NO_SUCH);
        faultIs("b3,1,201;", 0, NO_SUCH);
        faultIs("b2,2,201;", 0, NO_SUCH);
        faultIs("b2,1,201;", 0, REFUSED);
        faultIs("p8,0", 0, NOT_OF_FORM);
        faultIs("p8,0;", 0, NO_SUCH);
        faultIs("p7,0;", 0, REFUSED);
        faultIs("g4", 0, NOT_OF_FORM);
        SeaMill mill = Mills.withText(Mills.full(), "b8,0,1;");
        Check.due("b8,0,1; with 24 sacks", NO_SUCH, mill.fault(1));
        mill = Mills.withText(Mills.full(), "b0,6,1;");
        Check.due("b0,6,1; with 24 sacks", NO_SUCH, mill.fault(1));
        mill = Mills.withText(Mills.full(), "b7,5,1;");
        Check.due("b7,5,1; with 24 sacks", REFUSED, mill.fault(1));
    }

    private static void ordersAhead() {
        Check.sentence(TEXTS, "when those ahead of it are done.");
        faultIs("f2;f2;", 3, REFUSED);
        faultIs("p2,1;f2;", 5, REFUSED);
        faultIs("p2,1;p2,1;", 5, REFUSED);
        faultIs("r1;r1;", 3, REFUSED);
        faultIs("b0,0,9;f8;", 7, REFUSED);
        faultIs("b0,0,9;f9;", 7, NO_SUCH);
        hasNone("r1;f1;", 2);
        hasNone("r1;p1,54;", 2);
        faultIs("r1;p1,55;", 3, REFUSED);
        hasNone("p2,1;r2;f2;", 3);
        SeaMill mill = Mills.full();
        mill.undo();
        Check.type(mill, "b0,0,1;");
        Check.due("the 24th sack", Check.NOT_FOUND, mill.fault(0));
        Check.type(mill, "b0,0,1;");
        Check.due("the 25th sack: position", 7, mill.fault(0));
        Check.due("the 25th sack: reason", REFUSED, mill.fault(1));
        Twins.keeps("fault(0)", 6, () -> mill("f2;g3;p0,1;"), its -> its.fault(0));
        Twins.keeps("fault(1)", REFUSED, () -> mill("r1;b0,0,1;f1;f1;"), its -> its.fault(1));
    }

    private static void type() {
        String heading = "Promise 29: type";
        Check.sentence(heading, "`character`: 32 to 126");
        Check.sentence(heading, "Returns the length of the text");
        SeaMill mill = new SeaMill();
        Check.due("type(32)", 1, mill.type(32));
        Check.due("type(126)", 2, mill.type(126));
        for (int length = 3; length <= 60; length++) {
            Check.due("type(65)", length, mill.type(65));
        }
        Check.due("count(10)", 60, mill.count(10));
        Check.sentence(heading, "INVALID_ARGUMENT if character is out of range");
        int[] wrong = {31, 127, 0, -1, Integer.MIN_VALUE, Integer.MAX_VALUE, 65536 + 'g', 'g' - 65536, 256 + 'g'};
        for (int character : wrong) {
            String call = "type(" + character + ")";
            Twins.keeps(call, Check.INVALID, Mills::busy, its -> its.type(character));
            Twins.keeps(call + ", 60 already", Check.INVALID, Mills::fullText, its -> its.type(character));
        }
        Check.sentence(heading, "LIMIT_REACHED if it has 60 characters.");
        Twins.keeps("type(32), 60 already", Check.LIMIT, Mills::fullText, its -> its.type(32));
        Twins.keeps("type(59), 60 already", Check.LIMIT, Mills::fullText, its -> its.type(59));
        mill = Mills.fullText();
        mill.clearText();
        Check.due("type(32) after clearText()", 1, mill.type(32));
    }

    private static void clearText() {
        String heading = "Promise 30: clearText";
        Check.sentence(heading, "Empties the text.");
        SeaMill mill = mill("x");
        Check.due("clearText()", 1, mill.clearText());
        Check.due("count(10)", 0, mill.count(10));
        Check.due("fault(0)", Check.NOT_FOUND, mill.fault(0));
        Check.due("states", 4, mill.count(9));
        Check.sentence(heading, "Returns the length it had.");
        Twins.keeps("clearText() of nothing", 0, SeaMill::new, SeaMill::clearText);
        Check.due("clearText() again", 0, mill.clearText());
        Check.due("clearText() of 6", 6, Mills.busy().clearText());
        Check.due("clearText() of 60", 60, Mills.fullText().clearText());
    }

    private static void fault() {
        String heading = "Promise 31: fault";
        Check.sentence(heading, "`what`: 0: its position; 1: its reason");
        Check.sentence(heading, "Returns that");
        Twins.keeps("fault(0)", 3, Mills::busy, mill -> mill.fault(0));
        Twins.keeps("fault(1)", REFUSED, Mills::busy, mill -> mill.fault(1));
        Check.sentence(heading, "INVALID_ARGUMENT if what is out of range");
        for (int wrong : new int[] {-1, 2, Integer.MIN_VALUE, Integer.MAX_VALUE}) {
            Twins.keeps("fault(" + wrong + ")", Check.INVALID, Mills::busy, mill -> mill.fault(wrong));
            Twins.keeps("fault(" + wrong + "), no fault", Check.INVALID, Mills::fullText, mill -> mill.fault(wrong));
            Check.due("fault(" + wrong + "), empty", Check.INVALID, new SeaMill().fault(wrong));
        }
        Check.sentence(heading, "NOT_FOUND if the text has no fault (also if it is empty).");
        for (int what = 0; what <= 1; what++) {
            int its = what;
            Twins.keeps("fault(" + what + "), no fault", Check.NOT_FOUND, Mills::fullText, mill -> mill.fault(its));
            Twins.keeps("fault(" + what + "), empty", Check.NOT_FOUND, SeaMill::new, mill -> mill.fault(its));
        }
    }

    private static void play() {
        String heading = "Promise 32: play";
        Check.sentence(heading, "Does all orders of the text, which stays.");
        SeaMill mill = mill("b0,0,9;g2;b1,1,8;g3;");
        Check.due("play()", 4, mill.play());
        Check.due("the last opening", 3, mill.pond(4));
        Check.due("the first sack", 9, mill.sackOf(8, 2));
        Check.due("the second sack", 8, mill.sackOf(9, 2));
        Check.due("the text stays", 20, mill.count(10));
        Check.due("play() again", 4, mill.play());
        Check.due("two more sacks", 12, mill.count(2));
        Check.sentence(heading, "Returns how many there are in it");
        Twins.changes("play() of nothing", 0, SeaMill::new, SeaMill::play);
        Twins.changes("play() of one", 1, () -> mill("f2;"), SeaMill::play);
        Twins.changes("play() of 20", 20, Mills::fullText, SeaMill::play);
    }

    /** A sack that a text brings is like any other, also if one of its number was undone, and what it came to foretold. */
    private static void sackBroughtByPlay() {
        Check.sentence("Promise 32: play", "Does all orders of the text");
        String[] before = {"", "p8,5;", "f8;", "p8,5;r8;f8;"};
        for (String text : before) {
            SeaMill mill = mill(text);
            mill.withdraw(5);
            mill.withdraw(6);
            mill.set(10, 1);
            mill.bring(0, 1, 49);
            mill.pass(2);
            if (text.isEmpty()) {
                mill.pledge(8, 9);
                mill.bestGate(200);
            } else {
                Check.due("fault(0) of " + text, Check.NOT_FOUND, mill.fault(0));
            }
            while (mill.count(2) > 8) {
                mill.undo();
            }
            mill.clearText();
            Check.type(mill, "b1,1,30;");
            Check.due("play()", 1, mill.play());
            int[] brought = {1, 1, 30, 0, 30, 0, 0, 0, 0, 0, 0, 0};
            for (int what = 0; what <= 11; what++) {
                Check.due("after " + text + ": sackOf(8, " + what + ")", brought[what], mill.sackOf(8, what));
            }
            mill.pass(2);
            int[] ground = {1, 1, 30, 2, 0, 22, 3, 5, 0, 0, 0, Check.NOT_FOUND};
            for (int what = 0; what <= 11; what++) {
                Check.due("after " + text + ", ground: sackOf(8, " + what + ")", ground[what], mill.sackOf(8, what));
            }
            Check.due("after " + text + ": by the price of its kind", 2500, mill.pledge(8, 5));
        }
        String[] heavy = {"b1,1,120;", "b0,0,120;"};
        int[] grain = {120 - 50, 120 - 100};
        int[] dust = {(50 - 5) * 20 / 100, 0};
        for (int i = 0; i < heavy.length; i++) {
            SeaMill mill = mill(heavy[i]);
            mill.withdraw(5);
            mill.withdraw(6);
            mill.play();
            mill.pass(2);
            Check.due(heavy[i] + " by the hardness of its kind", grain[i], mill.sackOf(8, 4));
            Check.due(heavy[i] + " by the dust of its kind", dust[i], mill.sackOf(8, 7));
        }
    }

    private static void playOfAFault() {
        Check.sentence("Promise 32: play", "NOT_POSSIBLE if it has a fault.");
        String[] texts = {"x", "g3;f2;b0,0,9;r1;x", "g3;f2;b0,0,9;r1;f9;", "g3;f2;b0,0,9;r1;f8;", "p2,24;g4;"};
        for (String text : texts) {
            Twins.keeps("play() of " + text, Check.NOT_POSSIBLE, () -> mill(text), SeaMill::play);
        }
        Check.due("play() of an order cut off", Check.NOT_POSSIBLE, Mills.withText(new SeaMill(), "g").play());
    }

    private static void playAsOneChange() {
        Check.sentence("Promise 32: play", "They are one change, also if there are none.");
        SeaMill mill = new SeaMill();
        Check.due("play() of nothing", 0, mill.play());
        Check.due("states", 1, mill.count(9));
        Check.due("undo()", 0, mill.undo());
        Twins.changes("play()", 5, () -> mill("g3;b0,0,9;r1;f2;p1,54;"), SeaMill::play);
        Twins.changes("play()", 3, TextSentences::firstOrders, SeaMill::play);
        mill = firstOrders();
        mill.play();
        Check.due("one change", 3, mill.count(9));
    }

    private static SeaMill firstOrders() {
        SeaMill mill = new SeaMill();
        mill.kind(1, 0, 1);
        mill.farmer();
        return Mills.withText(mill, "b0,0,9;b0,0,8;g1;");
    }
}
