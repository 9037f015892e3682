import java.io.IOException;
import java.nio.file.Files;
import java.nio.file.Path;
import java.util.regex.Matcher;
import java.util.regex.Pattern;

/**
 * The document sentence by sentence, each with the edges that it names. At the end the document itself is read:
 * no word of Terms or of a promise is left that no test has told as its sentence.
 */
public final class EdgeTests {
    private static final Path DOCUMENT = Path.of("../shared/DOC.md");

    public static void main(String[] args) throws IOException {
        EdgesOfRefusals.all();
        EdgesOfKinds.all();
        EdgesOfAnswers.all();
        EdgesOfNearest.all();
        EdgesOfTables.all();
        EdgesOfPlaces.all();
        Held.closeSentence();
        if (Files.isReadable(DOCUMENT)) readDocument(Files.readString(DOCUMENT));
        else System.out.println("the document is not here: its words are not compared");
        String checks = Held.checks + " checks of " + Held.sentences.size() + " sentences";
        System.out.println(checks + ": " + (Held.wrong == 0 ? "all are as due" : Held.wrong + " are not as due"));
        if (Held.wrong != 0) System.exit(1);
    }

    private static void readDocument(String document) {
        String text = promised(document);
        boolean[] told = new boolean[text.length()];
        for (String sentence : Held.sentences) {
            int at = text.indexOf(sentence);
            if (at < 0) {
                Held.wrong++;
                System.out.println("not in the document: " + sentence);
            }
            for (int i = at; at >= 0 && i < at + sentence.length(); i++) told[i] = true;
        }
        StringBuilder left = new StringBuilder();
        for (int i = 0; i < told.length; i++) left.append(told[i] ? '\n' : text.charAt(i));
        for (String words : left.toString().split("\n+")) {
            if (words.matches("[^A-Za-z0-9]*")) continue;
            Held.wrong++;
            System.out.println("no test tells: " + words);
        }
    }

    /** Terms without the notes on the interface, then what stands behind the face of each promise, in one line. */
    private static String promised(String document) {
        int from = document.indexOf("Calls that are refused");
        int to = document.indexOf("Ahead of the calls `kind`");
        if (from < 0 || to < from) return "Terms are not where they were";
        StringBuilder all = new StringBuilder(document.substring(from, to).replaceAll("```(text)?|={8} \\d", " "));
        Matcher promise = Pattern.compile("(?m)^## Promise \\d+: .*\\n\\n`[^`]*`: (.*)$").matcher(document);
        int found = 0;
        while (promise.find()) {
            found++;
            all.append(' ').append(promise.group(1));
        }
        if (found != 28) all.append(" and ").append(found).append(" promises");
        return all.toString().replaceAll("\\s+", " ");
    }
}
