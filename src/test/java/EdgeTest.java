import java.io.IOException;
import java.nio.file.Files;
import java.nio.file.Path;

/** Each sentence of the document that names an edge has a test of its own, told by its words. */
public final class EdgeTest {
    private static final Edges EDGES = new Edges();

    /** The chapters' words, the terms at 0, each promise at its number. */
    private static String[] chaptersOf(String document) {
        String terms = document.substring(document.indexOf("## Terms"),
                document.indexOf("## Not promised"));
        String[] chapters = terms.split("(?m)^## Promise .*$");
        for (int i = 0; i < chapters.length; i++) {
            chapters[i] = plain(chapters[i]);
        }
        return chapters;
    }

    /** Without heading, signature and marks, the blanks as one. */
    private static String plain(String chapter) {
        return chapter.replaceAll("(?m)^##.*$", " ").replaceAll("```(text)?", " ")
                .replaceAll("==== \\d\\.", " ").replaceAll("`[^`\\n]*\\([^`\\n]*`:", " ")
                .replaceAll("\\s+", " ").trim();
    }

    /** What no test has told of is left, so that a new sentence asks for a new test. */
    private static String untested(String words, int chapter) {
        StringBuilder left = new StringBuilder(words);
        for (int s = 0; s < EDGES.sentences.size(); s++) {
            String sentence = EDGES.sentences.get(s);
            int at = words.indexOf(sentence);
            if (EDGES.chapters.get(s) == chapter && at < 0) {
                EDGES.complain("chapter " + chapter + " has not the words: " + sentence);
            }
            for (int i = at; at >= 0 && EDGES.chapters.get(s) == chapter
                    && i < at + sentence.length(); i++) {
                left.setCharAt(i, ' ');
            }
        }
        return left.toString().trim().replaceAll("\\s\\s+", "\n");
    }

    public static void main(String[] args) throws IOException {
        Path shared = Path.of(args.length > 1 ? args[1] : "../shared");
        String[] chapters = chaptersOf(Files.readString(shared.resolve("DOC.md")));
        new TextEdges(EDGES).all();
        new StepEdges(EDGES).all();
        new QuestionEdges(EDGES).all();
        new SightEdges(EDGES).all();
        for (int chapter = 0; chapter < chapters.length; chapter++) {
            String left = untested(chapters[chapter], chapter);
            if (!left.isEmpty()) {
                EDGES.complain("no test tells of chapter " + chapter + ":\n" + left);
            }
        }
        System.out.println(EDGES.sentences.size() + " sentences, " + EDGES.checks() + " checks, "
                + EDGES.wrong() + " wrong");
        System.exit(EDGES.wrong() == 0 ? 0 : 1);
    }
}
