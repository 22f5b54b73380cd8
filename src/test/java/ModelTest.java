/**
 * Long runs of calls, drawn by a fixed rule, whose answers are those of the Model. Arguments, both optional: how many
 * runs, and the number of the first one.
 */
public final class ModelTest {
    private static final String[] CHANGES = {"set", "leak", "lock", "gate", "kind", "farmer", "bring", "withdraw",
        "fetch", "earn", "pledge", "redeem", "pass", "play"};
    private static final String[] QUESTIONS = {"kindOf", "farmerOf", "sackOf", "queueAt", "account", "owed",
        "pledgeAt", "seaIn", "nextHigh", "pond", "foresee", "bestGate", "count", "undo", "type", "clearText",
        "fault"};
    private static final int[] LEAST = {10, 0, 0, 0, 4, 0, 0, 0, 0, 0, 1, 1, 0};
    private static final int[] GREATEST = {1000, 100, 300, 100, 100, 200, 100, 2000, 50, 100, 60, 100, 3};
    private static final int[] USUAL_CHANGES = {0, 1, 3, 4, 5, 6, 6, 6, 6, 6, 6, 7, 8, 8, 9, 10, 10, 10, 10, 11, 11,
        12, 12, 12, 12, 12, 12, 12};
    private static final int[] EDGES = {Integer.MIN_VALUE, Integer.MAX_VALUE, -2, -1, 0, 1, 1000000000, 1000000};
    private static final String LETTERS = "bfprg";

    private static long seed;
    private static SeaMill mill;
    private static Model model;
    private static int run;
    private static int calls;
    /** How many kinds, farmers and sacks the arguments are drawn from. */
    private static int kinds;
    private static int farmers;
    private static int sacks;

    private ModelTest() {
    }

    public static void main(String[] arguments) {
        int runs = arguments.length > 0 ? Integer.parseInt(arguments[0]) : 300;
        int first = arguments.length > 1 ? Integer.parseInt(arguments[1]) : 0;
        for (run = first; run < first + runs && !Check.anyWrong(); run++) {
            seed = run * 7919L + 17;
            mill = new SeaMill();
            model = new Model();
            calls = 0;
            if (run % 4 == 3) {
                beginWide();
            } else {
                begin();
            }
            while (calls < 340) {
                anyCall();
            }
            lookAround();
            Check.due("run " + run + ": more calls than are promised for an object", 1, calls <= 512 ? 1 : 0);
        }
        Check.end("ModelTest");
    }

    /** A number from 0 up to below the bound; always the same ones in the same order. */
    private static int draw(int bound) {
        seed = (seed * 6364136223846793005L + 1442695040888963407L);
        return (int) ((seed >>> 33) % bound);
    }

    private static void begin() {
        kinds = 3;
        farmers = 3;
        sacks = 16;
        if (draw(4) > 0) {
            change("set", 6, draw(5), 0);
            change("set", 7, draw(60), 0);
            change("set", 0, 10 + draw(120), 0);
            change("set", 12, draw(4), 0);
            change("set", 10, 1 + draw(4), 0);
        }
        for (int i = draw(3); i >= 0; i--) {
            change("kind", 1 + draw(9), draw(21), draw(3) == 0 ? 1000000 - draw(9) : 1 + draw(2000));
            change("farmer", 0, 0, 0);
        }
        change("gate", 1 + draw(3), 0, 0);
        for (int i = draw(9); i >= 0; i--) {
            change("bring", draw(3), draw(3), 1 + draw(60));
        }
        change("pass", 50, 0, 0);
    }

    /** Begins with settings from all of their ranges, and as many kinds, farmers and sacks as there may be. */
    private static void beginWide() {
        kinds = 1 + draw(6);
        farmers = 1 + draw(8);
        sacks = 25;
        for (int what = 0; what <= 12; what++) {
            if (draw(3) > 0) {
                change("set", what, settingOf(what), 0);
            }
        }
        for (int i = 0; i < kinds; i++) {
            change("kind", 1 + draw(9), draw(21), draw(2) == 0 ? 1000000 - draw(9) : 1 + draw(100000));
        }
        for (int i = 0; i < farmers; i++) {
            change("farmer", 0, 0, 0);
        }
        change("gate", 1 + draw(3), 0, 0);
        for (int i = draw(25); i > 0; i--) {
            change("bring", draw(farmers), draw(kinds), 1 + draw(200));
        }
        if (draw(2) == 0) {
            for (int time = 200; time < 9900; time += 200) {
                change("pass", 200, 0, 0);
            }
        }
    }

    /** A value of a setting, often the least or the greatest one. */
    private static int settingOf(int what) {
        switch (draw(6)) {
            case 0:
                return LEAST[what];
            case 1:
                return GREATEST[what];
            default:
                return LEAST[what] + draw(GREATEST[what] - LEAST[what] + 1);
        }
    }

    private static void change(String name, int a, int b, int c) {
        due(name, a, b, c, model.change(name, a, b, c), call(name, a, b, c));
    }

    private static int ask(String name, int a, int b, int c) {
        int want = model.ask(name, a, b, c);
        due(name, a, b, c, want, call(name, a, b, c));
        return want;
    }

    private static void due(String name, int a, int b, int c, int want, int got) {
        calls++;
        String call = want == got ? name : "run " + run + ": " + name + "(" + a + ", " + b + ", " + c + ")";
        Check.due(call, want, got);
    }

    private static void anyCall() {
        int choice = draw(100);
        if (choice < 40) {
            String name = CHANGES[USUAL_CHANGES[draw(USUAL_CHANGES.length)]];
            if (name.equals("set") && draw(3) > 0) {
                int what = draw(13);
                change(name, what, settingOf(what), 0);
            } else {
                change(name, argument(name, 0), argument(name, 1), argument(name, 2));
            }
        } else if (choice < 43) {
            String name = CHANGES[draw(CHANGES.length)];
            change(name, argument(name, 0), argument(name, 1), argument(name, 2));
        } else if (choice < 50) {
            order();
        } else if (choice < 52) {
            ask("undo", 0, 0, 0);
        } else {
            String name = QUESTIONS[draw(QUESTIONS.length)];
            if (!name.equals("undo") && (!name.equals("foresee") || draw(3) == 0)) {
                ask(name, argument(name, 0), argument(name, 1), argument(name, 2));
            }
        }
    }

    private static int argument(String name, int place) {
        int choice = draw(60);
        if (choice == 0) {
            return EDGES[draw(EDGES.length)];
        }
        if (choice == 1) {
            return draw(320) - 40;
        }
        switch (name) {
            case "set":
                return place == 0 ? draw(13) : draw(GREATEST[draw(13)] + 2);
            case "leak":
                return place == 0 ? draw(4) : draw(21);
            case "lock":
                return draw(2);
            case "gate":
                return draw(9) == 0 ? draw(5) : 1 + draw(3);
            case "kind":
                return place == 0 ? 1 + draw(9) : place == 1 ? draw(21) : 1 + draw(1000000);
            case "bring":
                return place == 2 ? 1 + draw(100) : draw(place == 0 ? farmers : kinds);
            case "earn":
                return place == 0 ? draw(farmers) : 1 + (draw(4) == 0 ? draw(1000000000) : draw(100000));
            case "pledge":
                return place == 0 ? draw(sacks) : 1 + draw(40);
            case "pass":
                return draw(12) == 0 ? 1 + draw(200) : 1 + draw(30);
            default:
                return questionArgument(name, place);
        }
    }

    private static int questionArgument(String name, int place) {
        switch (name) {
            case "withdraw", "fetch", "redeem", "owed", "foresee":
                return draw(sacks);
            case "kindOf", "farmerOf":
                return place == 0 ? draw(name.equals("kindOf") ? kinds : farmers) : draw(6);
            case "sackOf":
                return place == 0 ? draw(sacks) : draw(12);
            case "queueAt":
                return draw(8);
            case "account":
                return place < 2 ? draw((place == 0 ? farmers : kinds) + 1) - 1 : 2 + draw(9);
            case "pledgeAt":
                return draw(5);
            case "seaIn":
                return draw(5001);
            case "pond":
                return draw(15);
            case "bestGate":
                return 1 + draw(60);
            case "count":
                return draw(2) == 0 ? draw(11) : 20 + draw(13);
            case "type":
                return 32 + draw(95);
            default:
                return draw(2);
        }
    }

    /** Types an order, mostly one of the form, behind the text or in its stead. */
    private static void order() {
        if (draw(3) == 0) {
            ask("clearText", 0, 0, 0);
        }
        char letter = LETTERS.charAt(draw(LETTERS.length()));
        StringBuilder order = new StringBuilder().append(letter);
        order.append(draw(letter == 'g' ? 4 : letter == 'b' ? 2 : 12));
        if (letter == 'b') {
            order.append(',').append(draw(2)).append(',').append(1 + draw(99));
        } else if (letter == 'p') {
            order.append(",0").append(1 + draw(30));
        }
        order.append(';');
        if (draw(12) == 0) {
            order.setCharAt(draw(order.length()), "0;,b g".charAt(draw(6)));
        }
        for (int i = 0; i < order.length(); i++) {
            ask("type", order.charAt(i), 0, 0);
        }
        ask("fault", 0, 0, 0);
        ask("fault", 1, 0, 0);
        change("play", 0, 0, 0);
    }

    private static void lookAround() {
        for (int what = 0; what <= 32; what++) {
            ask("count", what, 0, 0);
        }
        for (int what = 0; what <= 14; what++) {
            ask("pond", what, 0, 0);
        }
        for (int what = 2; what <= 10; what++) {
            ask("account", -1, -1, what);
        }
        for (int sack = 0; sack < model.ask("count", 2, 0, 0); sack++) {
            ask("sackOf", sack, 3, 0);
            ask("sackOf", sack, 5, 0);
            ask("sackOf", sack, 11, 0);
        }
        while (ask("undo", 0, 0, 0) >= 0) {
            ask("pond", 0, 0, 0);
            ask("pond", 10, 0, 0);
            ask("queueAt", 0, 0, 0);
            ask("account", -1, -1, 5);
        }
    }

    private static int call(String name, int a, int b, int c) {
        switch (name) {
            case "set":
                return mill.set(a, b);
            case "leak":
                return mill.leak(a, b);
            case "lock":
                return mill.lock(a);
            case "gate":
                return mill.gate(a);
            case "kind":
                return mill.kind(a, b, c);
            case "farmer":
                return mill.farmer();
            case "bring":
                return mill.bring(a, b, c);
            case "withdraw":
                return mill.withdraw(a);
            case "fetch":
                return mill.fetch(a);
            case "earn":
                return mill.earn(a, b);
            case "pledge":
                return mill.pledge(a, b);
            case "redeem":
                return mill.redeem(a);
            case "pass":
                return mill.pass(a);
            case "play":
                return mill.play();
            default:
                return callQuestion(name, a, b, c);
        }
    }

    private static int callQuestion(String name, int a, int b, int c) {
        switch (name) {
            case "kindOf":
                return mill.kindOf(a, b);
            case "farmerOf":
                return mill.farmerOf(a, b);
            case "sackOf":
                return mill.sackOf(a, b);
            case "queueAt":
                return mill.queueAt(a);
            case "account":
                return mill.account(a, b, c);
            case "owed":
                return mill.owed(a);
            case "pledgeAt":
                return mill.pledgeAt(a, b);
            case "seaIn":
                return mill.seaIn(a);
            case "nextHigh":
                return mill.nextHigh();
            case "pond":
                return mill.pond(a);
            case "foresee":
                return mill.foresee(a);
            case "bestGate":
                return mill.bestGate(a);
            case "count":
                return mill.count(a);
            case "undo":
                return mill.undo();
            case "type":
                return mill.type(a);
            case "clearText":
                return mill.clearText();
            default:
                return mill.fault(a);
        }
    }
}
