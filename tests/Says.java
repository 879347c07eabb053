import java.io.IOException;
import java.nio.file.Files;
import java.nio.file.Path;

/** Which words of ../shared/DOC.md a test holds: they must stand there, and go ahead of what it prints. */
final class Says {
    private static final String DOC = read();

    private Says() {
    }

    private static String read() {
        try {
            return inOneRow(Files.readString(Path.of("../shared/DOC.md")));
        } catch (IOException e) {
            Calls.wrong++;
            System.out.println("../shared/DOC.md cannot be read");
            return "";
        }
    }

    private static String inOneRow(String text) {
        return text.replaceAll("\\s+", " ");
    }

    /** What comes until the next call is about these words of the document. */
    static void says(String words) {
        Calls.about = "[" + words + "]: ";
        if (!DOC.contains(inOneRow(words))) {
            Calls.wrong++;
            System.out.println(Calls.about + "these words do not stand in the document");
        }
    }

    /** Likewise of the words that stand under a promise. */
    static void says(int promise, String words) {
        Calls.about = "promise " + promise + ", [" + words + "]: ";
        int from = DOC.indexOf("## Promise " + promise + ":");
        int to = DOC.indexOf(promise == 47 ? "## Not promised" : "## Promise " + (promise + 1) + ":");
        if (from < 0 || to < from || !DOC.substring(from, to).contains(inOneRow(words))) {
            Calls.wrong++;
            System.out.println(Calls.about + "these words do not stand there in the document");
        }
    }
}
