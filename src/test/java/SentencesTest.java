import java.io.IOException;
import java.nio.file.Path;
import java.util.List;
import java.util.Set;

/**
 * A test for each sentence of the document that names a boundary case. The sentences that the tests name have to stand
 * in the document as they are quoted; the parts of it that no test names are listed here.
 */
public final class SentencesTest {
    private static final Path DOCUMENT = Path.of("..", "shared", "DOC.md");
    private static final Set<String> WITHOUT_PROMISES = Set.of("The public face", "Not promised");
    /** What a call is for, and what the other parts of its sentence tell more closely. */
    private static final Set<String> WITHOUT_A_CASE = Set.of("A tide mill:", "what later calls answer is free.",
        "All numbers are whole numbers;", "Of the pounds of a sack so many are ground;", "The constants:",
        "Sets a setting.", "Sets the leak of a sluice.", "Locks or unlocks the sea gate.",
        "Sets the opening of the mill gate.", "Adds a kind of grain.", "Adds a farmer.", "A farmer brings a sack.",
        "Returns something of a kind.", "Returns something of a farmer.", "Returns something of a sack.",
        "Returns a sack of the queue.", "Returns an account of all sacks of a farmer and of a kind together.",
        "A farmer earns something.", "Puts flour of a sack in pledge.", "Redeems the pledge of a sack.",
        "Returns something of a pledge;", "Lets steps go by.", "Returns something of the pond and the mill.",
        "Returns a number.", "Appends a character to the text.", "Tells about the fault of the text.");
    /** How parts begin that FaceTest looks at, and those that are about the comments in the interface. */
    private static final List<String> BEGINNINGS = List.of("`int ", "`SeaMill()`", "Ahead of the calls ", "---- ",
        "a pond that fills by the tides and leaks through its sluices ");

    private SentencesTest() {
    }

    public static void main(String[] arguments) throws IOException {
        SettingsSentences.all();
        WaterSentences.all();
        GrainSentences.all();
        QueueSentences.all();
        MoneySentences.all();
        TextSentences.all();
        ChangeSentences.all();
        compare(Document.read(DOCUMENT), Check.takeQuotes());
        Check.end("SentencesTest");
    }

    private static void compare(Document document, List<Check.Quote> quotes) {
        for (Check.Quote quote : quotes) {
            boolean stands = document.under(quote.heading()).contains(quote.words());
            Check.due("\"" + quote.words() + "\" stands under " + quote.heading(), 1, stands ? 1 : 0);
        }
        for (String heading : document.headings()) {
            if (!WITHOUT_PROMISES.contains(heading)) {
                for (String part : document.partsWithout(heading, quotes)) {
                    Check.due(heading + ": \"" + part + "\" has a test", 1, needsNone(part) ? 1 : 0);
                }
            }
        }
    }

    private static boolean needsNone(String part) {
        return WITHOUT_A_CASE.contains(part) || BEGINNINGS.stream().anyMatch(part::startsWith);
    }
}
