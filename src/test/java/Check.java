import java.util.ArrayList;
import java.util.List;

/** What the tests share: the comparing of answers, and mills that are easy to reckon with. */
final class Check {
    /** A sentence, or a part of one, of the document, and the heading that it stands under. */
    record Quote(String heading, String words) {
    }

    static final int INVALID = -1000001;
    static final int NOT_POSSIBLE = -1000002;
    static final int LIMIT = -1000003;
    static final int NOT_FOUND = -1000004;

    private static final List<Quote> QUOTES = new ArrayList<>();
    private static int looked = 0;
    private static int wrong = 0;

    private Check() {
    }

    /** Names the sentence of the document that the next answers are due by. */
    static void sentence(String heading, String words) {
        QUOTES.add(new Quote(heading, words));
    }

    /** Hands out all sentences that were named, and forgets them. */
    static List<Quote> takeQuotes() {
        List<Quote> quotes = List.copyOf(QUOTES);
        QUOTES.clear();
        return quotes;
    }

    static void due(String call, long want, long got) {
        looked++;
        if (got != want) {
            fail(call + " answered " + got + ", due is " + want);
        }
    }

    /** Counts something as wrong, and tells it with the sentence that was named last. */
    static void fail(String what) {
        wrong++;
        System.out.println(what);
        if (!QUOTES.isEmpty()) {
            Quote quote = QUOTES.get(QUOTES.size() - 1);
            System.out.println("    by " + quote.heading() + ": \"" + quote.words() + "\"");
        }
    }

    /** Prints the sum of a test, and ends with exit code 1 if an answer was wrong. */
    static void end(String test) {
        System.out.println(test + ": " + looked + " answers, " + wrong + " of them wrong");
        if (wrong != 0 || looked == 0) {
            System.exit(1);
        }
    }

    static boolean anyWrong() {
        return wrong != 0;
    }

    static void type(SeaMill mill, String text) {
        for (int i = 0; i < text.length(); i++) {
            mill.type(text.charAt(i));
        }
    }

    /**
     * A mill at time 1 whose sea stands at 0 for ever, and whose pond of area 10 has the given level (0 to 100),
     * without leaks, without a least head, and with a gate that takes no water: opening * level / hardness pounds
     * are ground in every step.
     */
    static SeaMill flatMill(int level) {
        SeaMill mill = new SeaMill();
        mill.set(0, 10);
        mill.set(1, level);
        mill.set(2, 0);
        mill.set(3, 0);
        mill.set(6, 0);
        mill.set(7, 0);
        for (int sluice = 0; sluice < 4; sluice++) {
            mill.leak(sluice, 0);
        }
        mill.pass(1);
        mill.set(1, 0);
        return mill;
    }

    /** A flat mill of level 100 with the gate open by 1, a kind (hardness 1, without dust) and a farmer. */
    static SeaMill fastMill(int price) {
        SeaMill mill = flatMill(100);
        mill.kind(1, 0, price);
        mill.farmer();
        mill.gate(1);
        return mill;
    }
}
