import java.io.IOException;
import java.lang.reflect.Method;
import java.nio.file.DirectoryStream;
import java.nio.file.Files;
import java.nio.file.Path;
import java.util.ArrayList;
import java.util.List;

/** That every Sentence stands in the document, and that all of its terms and promises have one. */
final class DocumentTest extends Check {
    private static final Path DOCUMENT = Path.of("../shared/DOC.md");
    private static final Path TESTS = Path.of("src/test/java");

    private final String document;
    private final boolean[] quoted;

    private DocumentTest(String document) {
        this.document = document;
        this.quoted = new boolean[document.length()];
    }

    private static List<Sentence> sentences() throws IOException, ClassNotFoundException {
        List<Sentence> sentences = new ArrayList<>();
        try (DirectoryStream<Path> files = Files.newDirectoryStream(TESTS, "*Test.java")) {
            for (Path file : files) {
                String name = file.getFileName().toString().replace(".java", "");
                for (Method method : Class.forName(name).getDeclaredMethods()) {
                    Sentence sentence = method.getAnnotation(Sentence.class);
                    if (sentence != null) {
                        sentences.add(sentence);
                    }
                }
            }
        }
        return sentences;
    }

    private void mark(String words) {
        int from = document.indexOf(words);
        due("places of \"" + words + "\" in the document, at the least", from < 0 ? 0 : 1, 1);
        while (from >= 0) {
            for (int k = from; k < from + words.length(); k++) {
                quoted[k] = true;
            }
            from = document.indexOf(words, from + 1);
        }
    }

    /** The word "or" joins the parts of a sentence that have a test each. */
    private void dueAllQuoted() {
        StringBuilder left = new StringBuilder(document);
        for (int k = 0; k < quoted.length; k++) {
            if (quoted[k]) {
                left.setCharAt(k, '.');
            }
        }
        int begin = document.indexOf("## Terms");
        int end = document.indexOf("## Not promised");
        due("the document's terms and promises are found", begin >= 0 && begin < end ? 1 : 0, 1);
        String[] lines = left.substring(Math.max(begin, 0), Math.max(begin, end)).split("\n");
        for (String line : lines) {
            if (!line.startsWith("## ") && !line.startsWith("```")) {
                String words = line.replaceAll("^`[^`]*`", "").replaceAll("\\bor\\b", "").replaceAll("[^A-Za-z0-9]+", " ");
                due("words without a test: " + words.trim(), words.trim().length(), 0);
            }
        }
    }

    public static void main(String[] args) throws IOException, ClassNotFoundException {
        if (!Files.isReadable(DOCUMENT)) {
            System.out.println("there is no " + DOCUMENT + " to hold the sentences against");
            return;
        }
        DocumentTest test = new DocumentTest(Files.readString(DOCUMENT));
        for (Sentence sentence : sentences()) {
            test.mark(sentence.says());
        }
        test.dueAllQuoted();
        test.end();
    }
}
