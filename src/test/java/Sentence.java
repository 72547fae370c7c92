import java.io.IOException;
import java.nio.file.Files;
import java.nio.file.Path;
import java.util.Set;
import java.util.TreeSet;

/** Ties a test to the sentence of the document that it is of; a test of no answers is a fault. */
final class Sentence {
    private static final String DOCUMENT = read(System.getProperty("document"));
    private static final Set<String> PARTS = new TreeSet<>();

    private Sentence() {
    }

    /** A part is I to IV, a promise's number, or a heading; its words must stand in that part as told here. */
    static void of(String part, String words, Runnable test) {
        PARTS.add(part);
        if (!DOCUMENT.isEmpty()) {
            Check.due("whether part " + part + " says: " + words, true, textOf(part).contains(words));
        }
        int before = Check.looked();
        int wrong = Check.wrong();
        test.run();
        Check.due("whether answers were looked at for: " + words, true, Check.looked() > before);
        if (Check.wrong() > wrong) {
            System.out.println("  broken is, in part " + part + ": " + words);
        }
    }

    /** Each promise has one sentence with a test at least. */
    static void allPromises(int many) {
        for (int promise = 1; promise <= many; promise++) {
            Check.due("whether promise " + promise + " has a test", true, PARTS.contains("" + promise));
        }
    }

    private static String textOf(String part) {
        boolean isPromise = Character.isDigit(part.charAt(0));
        boolean isTerm = Set.of("I", "II", "III", "IV").contains(part);
        String from = isPromise ? "## Promise " + part + ": " : isTerm ? " " + part + ". " : "## " + part + " ";
        String[] ends = isTerm ? new String[] {" I. ", " II. ", " III. ", " IV. ", "The constants: "} : new String[] {"## "};
        int start = DOCUMENT.indexOf(from);
        if (start < 0) {
            return "";
        }
        int end = DOCUMENT.length();
        for (String mark : ends) {
            int next = DOCUMENT.indexOf(mark, start + from.length());
            end = next < 0 ? end : Math.min(end, next);
        }
        return DOCUMENT.substring(start, end);
    }

    /** Without a document (it lies outside of the project) the words are not looked at. */
    private static String read(String place) {
        try {
            return place == null ? "" : Files.readString(Path.of(place)).replaceAll("\\s+", " ");
        } catch (IOException e) {
            System.out.println("the document can't be read: " + e.getMessage());
            return "";
        }
    }
}
