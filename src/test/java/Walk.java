import java.io.IOException;
import java.nio.file.Files;
import java.nio.file.Path;
import java.util.function.Consumer;

/**
 * Goes through the document from its first line to its last. What is quoted must stand there, in this
 * order and with nothing between, so that no sentence is passed over and none is tested that the
 * document does not say.
 */
final class Walk {
    private final String document;
    /** The only sentence whose tests are run; 0 for all. */
    private final int only;
    private int at;
    private int sentences;

    Walk(String path, int only) throws IOException {
        document = Files.readString(Path.of(path)).replaceAll("\\s+", " ").strip();
        this.only = only;
    }

    /** A sentence that says what a call answers or changes, with the tests that fail if it is broken. */
    Walk says(String quote, Runnable... tests) {
        sentences++;
        pass(quote);
        if (only != 0 && only != sentences) {
            return this;
        }
        int asked = Check.asked();
        for (Runnable test : tests) {
            Check.part("sentence " + sentences + ", \"" + quote + "\"");
            test.run();
        }
        Check.due("something is asked", Check.asked() > asked, true);
        return this;
    }

    /** Headings, and sentences that say nothing of a call's answer. */
    Walk passes(String... quotes) {
        for (String quote : quotes) {
            pass(quote);
        }
        return this;
    }

    private void pass(String quote) {
        Check.part("the document");
        while (at < document.length() && document.charAt(at) == ' ' && !quote.startsWith(" ")) {
            at++;
        }
        boolean there = document.startsWith(quote, at);
        if (!there) {
            int end = Math.min(document.length(), at + 60);
            System.out.println("the document goes on with: " + document.substring(at, end));
        }
        Check.due("\"" + quote + "\" comes next", there, true);
        at += there ? quote.length() : 0;
    }

    /** A block of text, with a test that reads it. */
    Walk saysBetween(String opening, String closing, Consumer<String> test) {
        pass(opening);
        int end = document.indexOf(closing, at);
        String block = end < 0 ? "" : document.substring(at, end);
        says(block, () -> test.accept(block.strip()));
        pass(closing);
        return this;
    }

    void end() {
        Check.part("the document");
        Check.same("what is left of it", document.substring(at).strip(), "");
        System.out.println(sentences + " sentences");
    }
}
