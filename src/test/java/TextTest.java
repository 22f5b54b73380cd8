/** Promises 29 to 32: type, clearText, fault, play. */
public final class TextTest {
    private TextTest() {
    }

    public static void main(String[] arguments) {
        type();
        clearText();
        faultOfForm();
        faultOfNames();
        faultOfRefusal();
        ordersAhead();
        faultArguments();
        play();
        playRefused();
        nothingIsLeftOver();
        longestText();
        Check.end("TextTest");
    }

    /** Two farmers, two kinds; sacks 0 and 1 are ground, 2 is on the stones, 3 waits; sack 1 has a pledge. */
    private static SeaMill mill() {
        SeaMill mill = Check.fastMill(100);
        mill.farmer();
        mill.kind(2, 0, 1);
        mill.bring(0, 0, 50);
        mill.bring(1, 0, 60);
        mill.bring(0, 0, 170);
        mill.bring(1, 1, 80);
        mill.pass(3);
        mill.pledge(1, 10);
        return mill;
    }

    private static void type() {
        SeaMill mill = new SeaMill();
        Check.due("type(31)", Check.INVALID, mill.type(31));
        Check.due("type(127)", Check.INVALID, mill.type(127));
        Check.due("type(-1)", Check.INVALID, mill.type(-1));
        Check.due("type(65536 + 65)", Check.INVALID, mill.type(65536 + 65));
        Check.due("no text", 0, mill.count(10));
        Check.due("type(32)", 1, mill.type(32));
        Check.due("type(126)", 2, mill.type(126));
        for (int length = 3; length <= 60; length++) {
            Check.due("type(65)", length, mill.type(65));
        }
        Check.due("type(65) for the 61st", Check.LIMIT, mill.type(65));
        Check.due("type(31) for the 61st", Check.INVALID, mill.type(31));
        Check.due("length", 60, mill.count(10));
        Check.due("no change", 0, mill.count(9));
    }

    private static void clearText() {
        SeaMill mill = new SeaMill();
        Check.due("clearText() of nothing", 0, mill.clearText());
        Check.type(mill, "x;g");
        Check.due("fault(0)", 0, mill.fault(0));
        Check.due("clearText()", 3, mill.clearText());
        Check.due("length", 0, mill.count(10));
        Check.due("no fault", Check.NOT_FOUND, mill.fault(0));
        Check.due("clearText() again", 0, mill.clearText());
        Check.due("no change", 0, mill.count(9));
        Check.type(mill, "g2;");
        Check.due("fault of the new text", Check.NOT_FOUND, mill.fault(1));
        Check.due("play() of the new text", 1, mill.play());
    }

    private static void faultIs(String text, int position, int reason) {
        SeaMill mill = mill();
        Check.type(mill, text);
        Check.due("fault(0) of " + text, position, mill.fault(0));
        Check.due("fault(1) of " + text, reason, mill.fault(1));
        Check.due("play() of " + text, Check.NOT_POSSIBLE, mill.play());
        Check.due("text stays: " + text, text.length(), mill.count(10));
    }

    private static void noFault(String text, int orders) {
        SeaMill mill = mill();
        Check.type(mill, text);
        Check.due("fault(0) of " + text, Check.NOT_FOUND, mill.fault(0));
        Check.due("fault(1) of " + text, Check.NOT_FOUND, mill.fault(1));
        Check.due("play() of " + text, orders, mill.play());
        Check.due("text stays: " + text, text.length(), mill.count(10));
    }

    private static void faultOfForm() {
        String[] texts = {";", " ", "g", "g;", "g1", "g1,", "g1,1;", "g0001;", "g 1;", "g1 ;", "G1;", "x1;", "g-1;",
            "b", "b0", "b0,0", "b0,0,9", "b0,0,;", "b0,,9;", "b,0,9;", "b0,0;", "b0,0,9,1;", "b0;0,9;", "b0 ,0,9;",
            "b0,0,0009;", "b0000,0,9;", "b0,0000,9;", "f;", "f0", "f0,1;", "p0;", "p0,1", "p0,;", "p,1;", "p0,1,1;",
            "p0,0001;", "r;", "r0,0;", "r0", "1;", ",;", "gg1;", "b0.0.9;", "b0,0,9:", "p0,1/;", "w3;", "b9,9,9"};
        for (String text : texts) {
            faultIs(text, 0, 1);
            faultIs("g1;" + text, 3, 1);
        }
        faultIs("g1; ", 3, 1);
        faultIs("g1;;", 3, 1);
        faultIs("b0,0,9;g1;g2", 10, 1);
    }

    private static void faultOfNames() {
        faultIs("b2,0,9;", 0, 2);
        faultIs("b0,2,9;", 0, 2);
        faultIs("b2,0,0;", 0, 2);
        faultIs("b999,999,999;", 0, 2);
        faultIs("f4;", 0, 2);
        faultIs("f999;", 0, 2);
        faultIs("p4,1;", 0, 2);
        faultIs("p4,0;", 0, 2);
        faultIs("r4;", 0, 2);
        faultIs("g0;b1,1,9;r5;g", 10, 2);
        SeaMill mill = new SeaMill();
        Check.type(mill, "b0,0,1;");
        Check.due("nobody, no kind", 2, mill.fault(1));
        mill.farmer();
        Check.due("no kind", 2, mill.fault(1));
        mill.kind(1, 0, 1);
        Check.due("by the mill as it is", Check.NOT_FOUND, mill.fault(1));
    }

    private static void faultOfRefusal() {
        faultIs("b0,0,0;", 0, 3);
        faultIs("b0,0,201;", 0, 3);
        faultIs("g4;", 0, 3);
        faultIs("g999;", 0, 3);
        faultIs("f1;", 0, 3);
        faultIs("f2;", 0, 3);
        faultIs("f3;", 0, 3);
        faultIs("p0,46;", 0, 3);
        faultIs("p0,0;", 0, 3);
        faultIs("p0,201;", 0, 3);
        faultIs("p1,1;", 0, 3);
        faultIs("p2,1;", 0, 3);
        faultIs("r0;", 0, 3);
        faultIs("r3;", 0, 3);
        SeaMill mill = Check.fastMill(1000000);
        mill.set(8, 0);
        mill.set(11, 100);
        mill.bring(0, 0, 100);
        mill.pass(1);
        Check.type(mill, "p0,22;");
        Check.due("no loan is given", 3, mill.fault(1));
        for (int i = 1; i < 24; i++) {
            mill.bring(0, 0, 9);
        }
        mill.clearText();
        Check.type(mill, "g1;b0,0,9;");
        Check.due("24 sacks: position", 3, mill.fault(0));
        Check.due("24 sacks: reason", 3, mill.fault(1));
    }

    private static void ordersAhead() {
        noFault("b0,0,9;", 1);
        noFault("b000,001,009;", 1);
        noFault("b1,1,200;g3;", 2);
        noFault("f0;", 1);
        noFault("p0,45;", 1);
        noFault("r1;f1;", 2);
        noFault("r1;p1,54;r1;f1;f0;", 5);
        noFault("g3;g3;g03;g003;", 4);
        faultIs("f0;f0;", 3, 3);
        faultIs("p0,1;f0;", 5, 3);
        faultIs("r1;r1;", 3, 3);
        faultIs("p0,40;p0,6;", 6, 3);
        faultIs("p0,45;r0;p0,46;", 9, 3);
        faultIs("b0,0,9;f4;", 7, 3);
        faultIs("b0,0,9;f5;", 7, 2);
        faultIs("f0;g4;x", 3, 3);
        faultIs("f9;g4;x", 0, 2);
        // what the orders do is not left behind by the telling of the fault
        SeaMill mill = mill();
        Check.type(mill, "f0;b0,0,9;g3;r1;");
        mill.fault(0);
        mill.fault(1);
        Check.due("still ground", 2, mill.sackOf(0, 3));
        Check.due("no new sack", 4, mill.count(2));
        Check.due("opening", 1, mill.pond(4));
        Check.due("still in pledge", 10, mill.sackOf(1, 8));
        // the last of 24 sacks is there, the next one is not
        mill = Check.fastMill(1);
        for (int i = 0; i < 22; i++) {
            mill.bring(0, 0, 9);
        }
        Check.type(mill, "b0,0,1;b0,0,2;b0,0,3;");
        Check.due("the 25th sack: position", 14, mill.fault(0));
        Check.due("the 25th sack: reason", 3, mill.fault(1));
    }

    private static void faultArguments() {
        SeaMill mill = new SeaMill();
        Check.due("fault(-1), no fault", Check.INVALID, mill.fault(-1));
        Check.due("fault(2), no fault", Check.INVALID, mill.fault(2));
        Check.due("fault(0), empty", Check.NOT_FOUND, mill.fault(0));
        Check.due("fault(1), empty", Check.NOT_FOUND, mill.fault(1));
        Check.type(mill, "?");
        Check.due("fault(-1)", Check.INVALID, mill.fault(-1));
        Check.due("fault(2)", Check.INVALID, mill.fault(2));
        Check.due("fault(MAX)", Check.INVALID, mill.fault(Integer.MAX_VALUE));
    }

    private static void play() {
        SeaMill mill = mill();
        Check.type(mill, "b1,1,77;f0;g2;r1;p1,20;g3;");
        Check.due("play()", 6, mill.play());
        Check.due("brought", 77, mill.sackOf(4, 2));
        Check.due("its farmer", 1, mill.sackOf(4, 0));
        Check.due("its kind", 1, mill.sackOf(4, 1));
        Check.due("fetched", 45, mill.sackOf(0, 10));
        Check.due("the last opening", 3, mill.pond(4));
        Check.due("in pledge", 20, mill.sackOf(1, 8));
        Check.due("purse", 1000, mill.farmerOf(1, 0));
        Check.due("states", 4, mill.count(9));
        Check.due("the text stays", 26, mill.count(10));
        Check.due("not twice", Check.NOT_POSSIBLE, mill.play());
        Check.due("position", 8, mill.fault(0));
        Check.due("one change", 3, mill.undo());
        Check.due("no sack 4", 4, mill.count(2));
        Check.due("not fetched", 2, mill.sackOf(0, 3));
        Check.due("opening", 1, mill.pond(4));
        Check.due("in pledge as it was", 10, mill.sackOf(1, 8));
        Check.due("purse as it was", 500, mill.farmerOf(1, 0));
        Check.due("the text is left by undo", 26, mill.count(10));
        Check.due("play() after undo", 6, mill.play());
        mill = new SeaMill();
        Check.due("play() of nothing", 0, mill.play());
        Check.due("a change all the same", 1, mill.count(9));
        Check.due("undo()", 0, mill.undo());
    }

    private static void playRefused() {
        SeaMill mill = mill();
        Check.type(mill, "g3;f0;f0;");
        Check.due("play()", Check.NOT_POSSIBLE, mill.play());
        Check.due("opening", 1, mill.pond(4));
        Check.due("not fetched", 2, mill.sackOf(0, 3));
        mill.undo();
        Check.due("the latest change was pledge", 0, mill.count(6));
        Check.due("no change by play", 3, mill.count(9));
    }

    /** A sack that is brought by a text has nothing of an undone one of its number, that was only foretold or tried. */
    private static void nothingIsLeftOver() {
        String[] tried = {"f0;", "p0,9;", "p0,9;r0;f0;", ""};
        for (String text : tried) {
            SeaMill mill = Check.fastMill(100);
            mill.set(10, 1);
            mill.kind(1, 20, 100);
            mill.bring(0, 1, 50);
            mill.pass(1);
            mill.pledge(0, 9);
            mill.bestGate(200);
            mill.undo();
            if (!text.isEmpty()) {
                Check.type(mill, text);
                Check.due("fault of " + text, Check.NOT_FOUND, mill.fault(0));
                mill.clearText();
            }
            mill.undo();
            mill.undo();
            Check.due("no sack", 0, mill.count(2));
            Check.type(mill, "b0,1,20;");
            Check.due("play()", 1, mill.play());
            int[] its = {0, 1, 20, 0, 20, 0, 0, 0, 0, 0, 0, 0};
            for (int what = 0; what <= 11; what++) {
                Check.due("after " + text + ": sackOf(0, " + what + ")", its[what], mill.sackOf(0, what));
            }
            Check.due("no pledge", 0, mill.count(6));
        }
    }

    private static void longestText() {
        SeaMill mill = mill();
        StringBuilder text = new StringBuilder();
        for (int i = 0; i < 20; i++) {
            text.append('g').append(i % 4).append(';');
        }
        Check.type(mill, text.toString());
        Check.due("length", 60, mill.count(10));
        Check.due("play()", 20, mill.play());
        Check.due("opening", 3, mill.pond(4));
        mill.clearText();
        text.setLength(57);
        text.append("g33");
        Check.type(mill, text.toString());
        Check.due("position of an order cut off by the limit", 57, mill.fault(0));
        Check.due("reason", 1, mill.fault(1));
        mill.clearText();
        text.setLength(54);
        text.append("b0,0,9");
        Check.type(mill, text.toString());
        Check.due("position of a longer order cut off", 54, mill.fault(0));
        Check.due("reason", 1, mill.fault(1));
    }
}
