import java.io.IOException;
import java.nio.file.Files;
import java.nio.file.Path;
import java.util.Arrays;
import java.util.List;

/** Every sentence of the document at its edges; and that there is a test for every sentence. */
public final class EdgeTest {
    private static final Path DOCUMENT = Path.of("../shared/DOC.md");

    public static void main(String[] args) throws IOException {
        TermsEdges.all();
        LanguageEdges.all();
        SittingEdges.all();
        PlanEdges.all();
        OddsEdges.all();
        PromiseEdges.all();
        sentences();
        Check.end();
    }

    /** Each word of the terms and the promises stands in what some test quotes, and what is quoted stands there. */
    private static void sentences() throws IOException {
        if (!Files.exists(DOCUMENT)) {
            System.out.println("there is no document beside the project: its sentences are not looked at");
            return;
        }
        String told = told(Files.readString(DOCUMENT));
        boolean[] tested = new boolean[told.length()];
        List<String> quoted = List.copyOf(Check.quoted());
        for (String words : quoted) {
            int at = told.indexOf(words);
            Check.due("in the document: " + words, at >= 0, true);
            for (; at >= 0; at = told.indexOf(words, at + 1)) {
                Arrays.fill(tested, at, at + words.length(), true);
            }
        }
        int at = 0;
        for (String sentence : told.split("(?<=[.;:] )")) {
            boolean all = true;
            for (int i = at; i < at + sentence.length(); i++) {
                all &= tested[i] || !Character.isLetterOrDigit(told.charAt(i));
            }
            Check.due("there is a test of: " + sentence, all, true);
            at += sentence.length();
        }
    }

    /** The words of the document that tell what the class does: without headings, calls and marks of form. */
    private static String told(String text) {
        int calls = text.indexOf("An object is used");
        int face = text.indexOf("## The public face");
        int terms = text.indexOf("PERSONS 0 to 7");
        int end = text.indexOf("## Not promised");
        return (text.substring(calls, face) + text.substring(terms, end))
                .replaceAll("(?m)^(##|```).*$", " ")
                .replaceAll("(?m)^`[^`]*`:", " ")
                .replaceAll("==== [234]\\.", " ")
                .replaceAll("\\s+", " ").trim();
    }
}
