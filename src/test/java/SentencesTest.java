import java.io.IOException;
import java.nio.file.DirectoryStream;
import java.nio.file.Files;
import java.nio.file.Path;
import java.util.ArrayList;
import java.util.List;
import java.util.regex.Matcher;
import java.util.regex.Pattern;

/**
 * That every sentence of the document that says what a call answers or changes is quoted by a test,
 * in the document's own words. (That there are checks behind a quotation is seen to by Desk.)
 */
public final class SentencesTest {
    private static final Path DOCUMENT = Path.of("../shared/DOC.md");
    private static final Path TESTS = Path.of("src/test/java");
    private static final Pattern QUOTATION = Pattern.compile("Desk\\.says\\(((?:\\s*\"[^\"]*\"\\s*\\+?)+)\\)");
    private static final Pattern PIECE = Pattern.compile("\"([^\"]*)\"");
    /** What tells nothing of any call: headings of a list, a method's name before its sentences. */
    private static final String[] NO_SENTENCES = {
        "A desk calculator with a stack: .* and what goes wrong is told and undone\\.",
        "what later calls answer is free\\.", "TOKENS:", "RUNNING a text:", "COMMANDS", "ERRORS:", "\\band\\b", "`[^`]*`:",
    };

    public static void main(String[] args) throws IOException {
        String document = sentences(Files.readString(DOCUMENT));
        List<String> quotations = quotations();
        boolean[] quoted = new boolean[document.length()];
        for (String quotation : quotations) {
            Desk.same("the document has: " + quotation, document.contains(quotation), true);
            mark(document, quotation, quoted);
        }
        Desk.same("what no test quotes", unquoted(document, quoted), "");
        Desk.close("SentencesTest");
    }

    /** The face is FaceTest's, and what is not promised needs no test. */
    private static String sentences(String document) {
        String promised = document.substring(0, document.indexOf("## Not promised"));
        String withoutFace = promised.replaceAll("(?s)```java.*?```", "");
        return withoutFace.replaceAll("(?m)^(#|```).*$", "").replaceAll("\\s+", " ");
    }

    private static List<String> quotations() throws IOException {
        List<String> all = new ArrayList<>();
        try (DirectoryStream<Path> files = Files.newDirectoryStream(TESTS, "*Test.java")) {
            for (Path file : files) {
                Matcher quotation = QUOTATION.matcher(Files.readString(file));
                while (quotation.find()) {
                    all.add(joined(quotation.group(1)));
                }
            }
        }
        return all;
    }

    private static String joined(String pieces) {
        StringBuilder all = new StringBuilder();
        Matcher piece = PIECE.matcher(pieces);
        while (piece.find()) {
            all.append(piece.group(1));
        }
        return all.toString();
    }

    private static void mark(String document, String quotation, boolean[] quoted) {
        for (int at = document.indexOf(quotation); at >= 0; at = document.indexOf(quotation, at + 1)) {
            for (int i = at; i < at + quotation.length(); i++) {
                quoted[i] = true;
            }
        }
    }

    private static String unquoted(String document, boolean[] quoted) {
        StringBuilder rest = new StringBuilder();
        for (int i = 0; i < quoted.length; i++) {
            rest.append(quoted[i] ? '|' : document.charAt(i));
        }
        String left = rest.toString();
        for (String words : NO_SENTENCES) {
            left = left.replaceAll(words, "|");
        }
        return left.replaceAll("[|\\s,;:.]+", " ").trim();
    }
}
