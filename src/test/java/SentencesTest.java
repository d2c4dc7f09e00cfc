import java.lang.reflect.Method;
import java.util.BitSet;
import java.util.LinkedHashMap;
import java.util.Map;

/** Each word under "Terms" and of each promise stands in the words that some test names, and no test names others. */
public final class SentencesTest {
    private static final Due due = new Due("SentencesTest");
    private static final int PROMISES = 35;

    public static void main(String[] args) {
        Map<String, String> parts = Document.parts();
        Map<String, BitSet> named = new LinkedHashMap<>();
        for (String part : parts.keySet()) {
            named.put(part, new BitSet());
        }
        for (Class<?> owner : Edges.ALL) {
            due.yes(owner + " has tests", !Edges.testsOf(owner).isEmpty());
            for (Method test : Edges.testsOf(owner)) {
                mark(test, parts, named);
            }
        }
        for (int promise = 1; promise <= PROMISES; promise++) {
            due.yes("the document has promise " + promise, parts.containsKey("Promise " + promise));
        }
        due.eq("three parts of terms, answers, doubts, constants, promises", parts.size(), 3 + 3 + PROMISES);
        for (Map.Entry<String, String> part : parts.entrySet()) {
            wordsWithoutATest(part.getKey(), part.getValue(), named.get(part.getKey()));
        }
        due.end();
    }

    private static void mark(Method test, Map<String, String> parts, Map<String, BitSet> named) {
        Says says = test.getAnnotation(Says.class);
        String part = parts.getOrDefault(says.in(), "");
        int from = part.indexOf(says.words());
        due.yes(test.getName() + " names words of " + says.in() + ": " + says.words(), from >= 0);
        if (from >= 0) named.get(says.in()).set(from, from + says.words().length());
    }

    private static void wordsWithoutATest(String name, String part, BitSet named) {
        StringBuilder left = new StringBuilder();
        int from = 0;
        for (String word : part.split(" ")) {
            if (!named.get(from)) left.append(word).append(' ');
            from += word.length() + 1;
        }
        due.yes(name + ": no test names \"" + left + "\"", left.length() == 0);
    }
}
