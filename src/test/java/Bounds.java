import java.io.IOException;
import java.nio.file.Files;
import java.nio.file.Path;

/**
 * Boundary cases: each sentence of the document that names one is a test of its own, told by its promise and its
 * words. Words that do not stand in the document, there or among its terms, are an answer that is not as due.
 */
final class Bounds {
    static final int PROMISES = 57;

    private static final Path DOCUMENT = Path.of("..", "shared", "DOC.md");

    final Checks t = new Checks();
    private final int[] sentences = new int[PROMISES + 1];
    private final String document;
    private int madeBefore = 0;

    Bounds() throws IOException {
        document = Files.exists(DOCUMENT) ? oneLine(Files.readString(DOCUMENT)) : "";
    }

    private static String oneLine(String text) {
        return text.replace("```text", " ").replace("```", " ").replaceAll("\\s+", " ");
    }

    /** Begins the test of a sentence, and ends the one before: it must have asked for something. */
    void sentence(int promise, String words) {
        endSentence();
        sentences[promise]++;
        t.about = "promise " + promise + ", \"" + words + "\": ";
        if (!document.isEmpty()) {
            t.due("the words stand in the document", stands(promise, words), true);
        }
        madeBefore = t.made();
    }

    private void endSentence() {
        if (!t.about.isEmpty()) {
            t.due("answers asked for", t.made() > madeBefore, true);
        }
    }

    private boolean stands(int promise, String words) {
        int section = document.indexOf("## Promise " + promise + ":");
        int next = document.indexOf("## ", section + 3);
        int promises = document.indexOf("## Promise 1:");
        return section >= 0 && next > section
            && (document.substring(section, next).contains(words) || document.substring(0, promises).contains(words));
    }

    void finish(String name) {
        endSentence();
        t.about = "";
        int all = 0;
        for (int promise = 1; promise <= PROMISES; promise++) {
            all += sentences[promise];
            t.due("promise " + promise + " has a sentence", sentences[promise] > 0, true);
        }
        System.out.println(name + ": " + all + " sentences");
        t.finish(name);
    }

    /** A text and its fault, which is where the mark ^ stands; none without one. */
    void fault(int number, String marked) {
        int at = marked.indexOf('^');
        String text = at < 0 ? marked : marked.substring(0, at) + marked.substring(at + 1);
        WellVoice x = new WellVoice();
        int got = Checks.tell(x, text);
        t.due("fault() of " + marked, x.fault(), number);
        t.due("where() of " + marked, x.where(), at);
        t.due("trouble() of " + marked, x.trouble(), number == 0 ? 0 : 4);
        t.due("well() of " + marked + " is refused", got == WellVoice.NONE, number != 0);
    }
}
