import java.io.IOException;
import java.lang.reflect.Method;
import java.nio.file.Files;
import java.nio.file.Path;
import java.util.ArrayList;
import java.util.List;

/** Every sentence of the document's terms and promises is borne by a test, in the document's own words. */
public final class EverySentence {
    private static final int PROMISES = 34;

    private static String document() throws IOException {
        Path root = Path.of(System.getProperty("project.root", "."));
        return Files.readString(root.resolve("../shared/DOC.md"));
    }

    private static List<Sentence> borne() {
        List<Sentence> borne = new ArrayList<>();
        for (Class<?> tests : Edges.ALL) {
            for (Method test : Edges.testsOf(tests)) borne.add(test.getAnnotation(Sentence.class));
        }
        return borne;
    }

    private static String between(String text, String from, String to) {
        int start = text.indexOf(from);
        Check.holds("the document has " + from, start >= 0);
        int end = text.indexOf(to, start + from.length());
        return text.substring(start + from.length(), end < 0 ? text.length() : end);
    }

    /** What is left of a text when all that is borne is taken out; the longest first, so that parts of it don't break it. */
    private static String left(String text, List<Sentence> borne, int promise) {
        String left = text;
        List<String> told = new ArrayList<>();
        for (Sentence sentence : borne) {
            if (promise == 0 || sentence.promise() == promise) told.add(sentence.says());
        }
        told.sort((a, b) -> b.length() - a.length());
        for (String says : told) left = left.replace(says, " ");
        return left.replaceAll("[\\s`]+", " ").trim();
    }

    private static void inTheDocumentsWords(String document, List<Sentence> borne) {
        for (Sentence sentence : borne) Check.holds("the document says: " + sentence.says(), document.contains(sentence.says()));
    }

    private static void eachPromise(String document, List<Sentence> borne) {
        for (int n = 1; n <= PROMISES; n++) {
            String promise = between(document, "\n## Promise " + n + ":", "\n## ");
            String says = promise.substring(promise.indexOf("`: ") + 3);
            String left = left(says, borne, n);
            Check.holds("promise " + n + " is borne but for: " + left, left.isEmpty());
        }
    }

    private static void eachTerm(String document, List<Sentence> borne) {
        String terms = between(document, "\n## Terms", "\nAhead of the calls");
        String left = left(terms.replaceAll("======== \\d|```text|```", " "), borne, 0);
        Check.holds("terms are borne but for: " + left, left.isEmpty());
    }

    private static void thereAreTests() {
        int many = 0;
        for (Class<?> tests : Edges.ALL) many += Edges.testsOf(tests).size();
        Check.holds("there are tests", many > 200);
    }

    public static void main(String[] args) throws IOException {
        String document = document();
        List<Sentence> borne = borne();
        inTheDocumentsWords(document, borne);
        eachPromise(document, borne);
        eachTerm(document, borne);
        thereAreTests();
        Check.end();
    }
}
