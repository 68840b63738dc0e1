import java.io.IOException;
import java.nio.file.Files;
import java.nio.file.Path;
import java.util.function.Consumer;

/**
 * Tests of the document's sentences. Each names its promise and quotes its sentence (from the promise,
 * or from what the document says of the same case ahead of the promises), and fails as well if the
 * document has no such promise or no such words.
 */
final class Sentences {
    private static final Path DOCUMENT = Path.of("..", "shared", "DOC.md");

    private final String name;
    private final String document;
    private int tests;
    private int checks;
    private int wrong;

    Sentences(String name) {
        this.name = name;
        try {
            document = spaced(Files.readString(DOCUMENT));
        } catch (IOException e) {
            throw new IllegalStateException("there is no " + DOCUMENT, e);
        }
    }

    private static String spaced(String text) {
        return text.replaceAll("\\s+", " ");
    }

    void hold(String promise, String words, Consumer<Check> test) {
        Check check = new Check(promise + ", \"" + words + "\"");
        try {
            test.accept(check);
        } catch (RuntimeException e) {
            check.due("an exception came through (" + e + "), which", true, false);
        }
        check.due("whether the test checks anything", check.checks() > 0, true);
        check.due("whether the document has this promise", document.contains("## " + promise + " `"), true);
        check.due("whether the document has these words", document.contains(words), true);
        tests++;
        checks += check.checks();
        wrong += check.wrong();
    }

    void end() {
        System.out.println(name + ": " + tests + " sentences, " + checks + " checks, " + wrong + " wrong");
        if (wrong != 0 || tests == 0) {
            System.exit(1);
        }
    }
}
