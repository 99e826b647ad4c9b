import java.util.LinkedHashMap;
import java.util.Map;
import java.util.TreeSet;
import java.util.Set;

/** The sentences of the document, each with the test of its own. */
final class Sentences {
    interface Test {
        void run(Checks c);
    }

    final Map<String, Test> tests = new LinkedHashMap<>();
    /** Sentences that say again, in fewer words, what the sentence before them says. */
    final Set<String> repeats = new TreeSet<>();
    private String place = "";

    static Sentences all() {
        Sentences all = new Sentences();
        TermsSentences.addTo(all);
        DaysSentences.addTo(all);
        SupplySentences.addTo(all);
        BrewSentences.addTo(all);
        OrderSentences.addTo(all);
        AskedSentences.addTo(all);
        StockSentences.addTo(all);
        return all;
    }

    /** What follows stands in this section of the document. */
    void in(String section) {
        place = section;
    }

    void says(String sentence, Test test) {
        if (tests.put(place + ": " + sentence, test) != null) {
            throw new IllegalArgumentException("two tests of '" + sentence + "'");
        }
    }

    void repeats(String sentence) {
        repeats.add(place + ": " + sentence);
    }
}
