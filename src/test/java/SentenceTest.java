import java.nio.file.Files;
import java.nio.file.Path;
import java.util.Set;
import java.util.TreeSet;

/** Each sentence of the document's terms and promises has a test of its own, and holds. */
public final class SentenceTest {
    /** What the first sentences say in general, the sentences behind them say in detail. */
    private static final Set<String> IN_GENERAL = Set.of(
            "What it is: A scheduler for a brewery.",
            "Terms: Brews ferment in one vessel and mature in another one, yeast is harvested and used again for some "
                    + "generations, vessels are cleaned by a few crews, and orders, which may be blends of several "
                    + "beers, are filled from the tanks by their due days.",
            "Terms: Brews are started by hand or from a queue, whose best order is found by search and by trying.",
            "Terms: The class is not thread-safe.");
    private static final Set<String> HEADINGS = Set.of("Recipes and vessels.", "Yeast.", "Brews.", "Orders.", "Days.",
            "Forecast.", "Exceptions.");

    public static void main(String[] args) throws Exception {
        Checks checks = new Checks("SentenceTest");
        Sentences all = Sentences.all();
        Set<String> tested = new TreeSet<>(all.tests.keySet());
        tested.addAll(all.repeats);
        tested.addAll(IN_GENERAL);
        Set<String> written = sentencesOf(Files.readString(Path.of(args[1])));
        checks.equal("sentences of the document without a test", without(written, tested), Set.of());
        checks.equal("tests of what the document doesn't say", without(tested, written), Set.of());
        for (String sentence : all.tests.keySet()) {
            Checks own = new Checks(sentence);
            all.tests.get(sentence).run(own);
            checks.equal("'" + sentence + "' has been tested", own.done() > 0, true);
            checks.equal("'" + sentence + "' and its wrong answers", own.wrongs(), 0);
        }
        System.out.println("SentenceTest: " + all.tests.size() + " sentences");
        checks.finish();
    }

    /** How many wrong answers the sentence's own test finds. */
    public static int wrongsOf(String sentence) {
        Checks own = new Checks(sentence, false);
        Sentences.all().tests.get(sentence).run(own);
        return own.wrongs();
    }

    private static Set<String> without(Set<String> some, Set<String> others) {
        Set<String> left = new TreeSet<>(some);
        left.removeAll(others);
        return left;
    }

    /** Each sentence behind the name of its section; those about a parameter alone are left out. */
    private static Set<String> sentencesOf(String document) {
        Set<String> sentences = new TreeSet<>();
        String section = "";
        for (String block : document.split("\n\n+")) {
            String text = block.strip().replaceAll("\\s+", " ").replaceFirst("^`[^`]*`: ", "");
            if (text.startsWith("## ")) {
                section = text.substring(3).replaceFirst(":.*", "");
            } else if (section.matches("What it is|Terms|Promise \\d+") && !text.matches("(- |Ahead of ).*")) {
                for (String sentence : text.split("(?<=\\.) ")) {
                    sentences.add(section + ": " + sentence);
                }
            }
        }
        for (String heading : HEADINGS) {
            sentences.remove("Terms: " + heading);
        }
        return sentences;
    }
}
