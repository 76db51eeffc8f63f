import java.io.IOException;
import java.nio.file.Files;
import java.nio.file.Path;
import java.util.ArrayList;
import java.util.List;

/** Tests that each stand with the document's words that they are of; together they have all words of a part of it. */
final class Words {
    private static final Path DOCUMENT = Path.of("../shared/DOC.md");

    private final List<String> quoted = new ArrayList<>();

    void of(String words, Runnable test) {
        quoted.add(words);
        int before = Check.wrong();
        test.run();
        if (Check.wrong() != before) System.out.println("  so this does not hold: " + words);
    }

    /** No words from one place of the document to another stand without a test. */
    void areAll(String from, String to) throws IOException {
        if (!Files.exists(DOCUMENT)) {
            System.out.println(DOCUMENT + " is not there: that no words of it are left out is not looked at");
            return;
        }
        String text = Files.readString(DOCUMENT);
        int start = text.indexOf(from);
        int end = text.indexOf(to);
        if (start < 0 || end < start) {
            Check.fail("the document has not '" + from + "' and then '" + to + "'");
            return;
        }
        String left = onlyWords(text.substring(start, end));
        for (String words : quoted) {
            if (!left.contains(words)) Check.fail("the document has no words: " + words);
            left = left.replace(words, "");
        }
        if (!left.isBlank()) Check.fail("no test is of the document's words: " + left.strip());
    }

    /** Without headings, the terms' numbers and the marks of a text block. */
    private static String onlyWords(String text) {
        return text.replaceAll("(?m)^##.*$", " ").replaceAll("======== \\d ", " ").replaceAll("```(text)?", " ")
            .replaceAll("\\s+", " ");
    }
}
