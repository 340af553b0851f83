import java.io.IOException;
import java.nio.file.Files;
import java.nio.file.Path;
import java.util.BitSet;
import java.util.LinkedHashMap;
import java.util.Map;
import java.util.Set;
import java.util.TreeMap;

/**
 * The document's sentences. Each test says which one it is of; a sentence that stands no longer in the
 * document, or one of the document that has no test, counts as a wrong answer.
 */
final class Sentences {
    private static final Path DOCUMENT = Path.of("../shared/DOC.md");

    private final Check check = new Check();
    private final Map<String, String> sections = new LinkedHashMap<>();
    private final Map<String, BitSet> tested = new TreeMap<>();
    private String sentence = "";

    Sentences() throws IOException {
        if (!Files.exists(DOCUMENT)) {
            System.out.println("without " + DOCUMENT + " no sentence is looked up");
            return;
        }
        for (String section : Files.readString(DOCUMENT).split("(?m)^## ")) {
            int end = section.indexOf('\n');
            sections.put(section.substring(0, end), section.substring(end).replaceAll("\\s+", " "));
        }
    }

    /** The checks that follow are those of this sentence. */
    void of(String section, String quote) {
        sentence = section + ": \"" + quote + "\": ";
        if (sections.isEmpty()) {
            return;
        }
        String text = sections.getOrDefault(section, "");
        int begin = text.indexOf(quote);
        check.holds(sentence + "stands in the document", begin >= 0);
        while (begin >= 0) {
            tested.computeIfAbsent(section, key -> new BitSet()).set(begin, begin + quote.length());
            begin = text.indexOf(quote, begin + 1);
        }
    }

    void due(String call, long got, long want) {
        check.due(sentence + call, got, want);
    }

    void holds(String fact, boolean isSo) {
        check.holds(sentence + fact, isSo);
    }

    void finish(String name, Set<String> otherSections) {
        for (String section : sections.keySet()) {
            if (!otherSections.contains(section)) {
                checkThatAllIsTested(section);
            }
        }
        check.finish(name);
    }

    private void checkThatAllIsTested(String section) {
        StringBuilder rest = new StringBuilder(sections.get(section));
        BitSet quoted = tested.getOrDefault(section, new BitSet());
        for (int i = quoted.nextSetBit(0); i >= 0; i = quoted.nextSetBit(i + 1)) {
            rest.setCharAt(i, ' ');
        }
        String untested = rest.toString().replaceFirst("^ `[^`]*`:", "").trim();
        check.holds("all of '" + section + "' is tested, but for: " + untested, untested.isEmpty());
    }
}
