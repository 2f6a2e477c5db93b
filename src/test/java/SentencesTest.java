import java.io.IOException;
import java.lang.reflect.Method;
import java.nio.file.Files;
import java.nio.file.Path;
import java.util.ArrayList;
import java.util.List;

/**
 * That the tests of edges are about the document's own words, and that none of
 * its words is without a test: of each promise by that promise's tests, of the
 * terms by any of them.
 */
public final class SentencesTest {
    private static final Path DOCUMENT = Path.of("../shared/DOC.md");
    private static final int PROMISES = 31;
    private static final List<Class<? extends Scene>> TESTS = List.of(
        EdgesOfWordsTest.class, EdgesOfTextsTest.class, EdgesOfSayingsTest.class,
        EdgesOfBestTest.class, EdgesOfHearingTest.class, EdgesOfHostTest.class);

    private SentencesTest() {
    }

    public static void main(String[] args) throws IOException {
        if (!Files.exists(DOCUMENT)) {
            System.out.println("SentencesTest: " + DOCUMENT + " is not here, nothing to compare with");
            return;
        }
        String document = Files.readString(DOCUMENT).replaceAll("\\s+", " ");
        String terms = between(document, "An object is used", "## Promise 1:");
        List<String> all = new ArrayList<>();
        for (int promise = 1; promise <= PROMISES; promise++) {
            String words = wordsOf(document, promise);
            List<String> said = new ArrayList<>();
            for (Method test : testsOf(promise)) {
                said.addAll(quotes(test, words, terms));
            }
            lookForUntested("promise " + promise, words, said);
            all.addAll(said);
        }
        lookForUntested("terms", withoutTheInterface(terms), all);
        Due.end("SentencesTest");
    }

    private static String between(String text, String first, String next) {
        int from = text.indexOf(first);
        int to = text.indexOf(next, from);
        Due.holds("the document has " + first, from >= 0);
        return text.substring(Math.max(0, from), to < 0 ? text.length() : to);
    }

    /** What stands behind the call itself, under the promise's heading. */
    private static String wordsOf(String document, int promise) {
        String next = promise == PROMISES ? "## Not promised" : "## Promise " + (promise + 1) + ":";
        String section = between(document, "## Promise " + promise + ":", next);
        return section.substring(section.indexOf("`:") + 2).strip();
    }

    private static List<Method> testsOf(int promise) {
        List<Method> found = new ArrayList<>();
        for (Class<? extends Scene> tests : TESTS) {
            for (Method test : Cases.of(tests)) {
                if (Cases.promise(test) == promise) {
                    found.add(test);
                }
            }
        }
        return found;
    }

    private static List<String> quotes(Method test, String words, String terms) {
        Says says = test.getAnnotation(Says.class);
        Due.holds(test.getName() + " quotes the document", says != null && says.value().length > 0);
        List<String> all = new ArrayList<>();
        for (String quote : says == null ? new String[0] : says.value()) {
            Due.holds(test.getName() + ": the document says: " + quote, words.contains(quote) || terms.contains(quote));
            all.add(quote);
        }
        return all;
    }

    /** Headings, and what the interface says ahead of calls, ask nothing of the class. */
    private static String withoutTheInterface(String terms) {
        return terms.replaceAll("; what later calls answer is free\\.", "")
            .replaceAll("## The public face .*?## Terms", "").replace("```text", "").replace("==== 2", "")
            .replace("==== 3", "").replaceAll("Ahead of the calls .*", "");
    }

    private static void lookForUntested(String name, String words, List<String> quotes) {
        boolean[] tested = new boolean[words.length()];
        for (String quote : quotes) {
            for (int at = words.indexOf(quote); at >= 0; at = words.indexOf(quote, at + 1)) {
                java.util.Arrays.fill(tested, at, at + quote.length(), true);
            }
        }
        StringBuilder untested = new StringBuilder();
        for (int i = 0; i < words.length(); i++) {
            untested.append(tested[i] ? ' ' : words.charAt(i));
        }
        String rest = untested.toString().replaceAll("\\s+", " ").strip();
        Due.holds(name + ", words without a test: " + rest, !rest.matches(".*[A-Za-z0-9].*"));
    }
}
