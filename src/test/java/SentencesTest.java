import java.lang.reflect.Method;
import java.nio.file.Files;
import java.nio.file.Path;
import java.util.ArrayList;
import java.util.List;
import java.util.regex.Pattern;

/** src/test/SENTENCES.md: its pieces are the whole document, and the tests that it names for each are there. */
public final class SentencesTest {
    private static final Path DOCUMENT = Path.of("../shared/DOC.md");
    private static final Path LIST = Path.of("src/test/SENTENCES.md");

    private record Piece(String text, List<String> tests) { }

    public static void main(String[] args) throws Exception {
        List<Piece> pieces = pieces();
        wholeDocument(pieces);
        for (Piece piece : pieces) {
            Due.holds("a test, or a reason: " + piece.text, !piece.tests.isEmpty());
            for (String test : piece.tests) isThere(test);
        }
        Due.end();
    }

    private static List<Piece> pieces() throws Exception {
        List<Piece> pieces = new ArrayList<>();
        for (String line : Files.readAllLines(LIST)) {
            if (line.startsWith("> ")) pieces.add(new Piece(bare(line.substring(2)), new ArrayList<>()));
            if (line.startsWith("- nothing: ")) pieces.get(pieces.size() - 1).tests.add("");
            else if (line.startsWith("- ")) pieces.get(pieces.size() - 1).tests.addAll(List.of(line.substring(2).split(", ")));
        }
        return pieces;
    }

    private static void wholeDocument(List<Piece> pieces) throws Exception {
        String left = prose(Files.readString(DOCUMENT));
        for (Piece piece : pieces) {
            boolean next = left.startsWith(piece.text);
            Due.holds("'" + piece.text + "' is not what the document says next: '" + first(left) + "'", next);
            if (!next) return;
            left = left.substring(piece.text.length()).trim();
        }
        Due.holds("no test is named for '" + first(left) + "'", left.isEmpty());
    }

    /** The document without headings, fences and the face, which FaceTest looks at. */
    private static String prose(String document) {
        String text = document.replaceAll("(?s)```java.*?```", "").replaceAll("```(text)?", "");
        return bare(text.replaceAll("(?m)^#.*$", "").replaceAll("(?m)^=+ \\d ", ""));
    }

    private static String bare(String text) {
        return text.replaceAll("\\s+", " ").trim();
    }

    private static String first(String text) {
        return text.substring(0, Math.min(90, text.length()));
    }

    /** A method that is declared and called in its class. */
    private static void isThere(String test) throws Exception {
        if (test.isEmpty()) return;
        String[] names = test.split("\\.");
        boolean declared = false;
        for (Method method : Class.forName(names[0]).getDeclaredMethods()) declared |= method.getName().equals(names[1]);
        Due.holds(test + " is there", declared);
        String source = Files.readString(Path.of("src/test/java/" + names[0] + ".java"));
        long seen = Pattern.compile("\\b" + names[1] + "\\(").matcher(source).results().count();
        Due.holds(test + " is called", seen >= 2);
    }
}
