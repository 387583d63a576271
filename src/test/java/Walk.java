import java.io.IOException;
import java.nio.file.Files;
import java.nio.file.Path;
import java.util.function.Consumer;

/**
 * Goes through the document from its first line to its last. What is quoted must stand there, in this
 * order and with nothing between, so that no sentence is passed over and none is tested that the
 * document does not say.
 */
final class Walk {
    private final boolean there;
    private final String document;
    /** The only sentence whose tests are run; 0 for all. */
    private final int only;
    private int at;
    private int sentences;

    /** Without the document the tests are run all the same, but what is quoted is not looked up. */
    Walk(Path path, int only) throws IOException {
        there = Files.isRegularFile(path);
        document = there ? Files.readString(path).replaceAll("\\s+", " ").strip() : "";
        this.only = only;
        if (!there) {
            System.out.println(path + " is not there, so the sentences are not looked up");
        }
    }

    /** A sentence that says what a call answers or changes, with the tests that fail if it is broken. */
    void says(String quote, Runnable... tests) {
        sentences++;
        passes(quote);
        if (only != 0 && only != sentences) {
            return;
        }
        int asked = Check.asked();
        for (Runnable test : tests) {
            Check.part("sentence " + sentences + ", \"" + quote + "\"");
            test.run();
        }
        Check.due("something is asked", Check.asked() > asked, true);
    }

    /** Headings, and sentences that say nothing of a call's answer. */
    void passes(String quote) {
        Check.part("the document");
        if (!there) {
            return;
        }
        while (at < document.length() && document.charAt(at) == ' ' && !quote.startsWith(" ")) {
            at++;
        }
        boolean next = document.startsWith(quote, at);
        Check.due("\"" + quote + "\" comes next", next, true);
        if (!next) {
            int end = Math.min(document.length(), at + 80);
            System.out.println("the document goes on with: " + document.substring(at, end));
        }
        int found = document.indexOf(quote, at);
        at = found < 0 ? at : found + quote.length();
    }

    /** A block of text, with a test that reads it. */
    void saysBetween(String opening, String closing, Consumer<String> test) {
        passes(opening);
        int end = document.indexOf(closing, at);
        String block = end < 0 ? "" : document.substring(at, end);
        says(block, () -> {
            Check.due("a block is told", !there || !block.isEmpty(), true);
            if (there) {
                test.accept(block.strip());
            }
        });
        passes(closing);
    }

    void end() {
        Check.part("the document");
        Check.same("what is left of it", document.substring(at).strip(), "");
        System.out.println(sentences + " sentences");
    }
}
