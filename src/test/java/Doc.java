import java.io.IOException;
import java.nio.file.Files;
import java.nio.file.Path;
import java.util.LinkedHashSet;
import java.util.Set;
import java.util.regex.Matcher;
import java.util.regex.Pattern;

/** The sentences of the document: a test quotes the one that it is for, and none may be left over. */
final class Doc {
    private static final Path PATH = Path.of("../shared/DOC.md");
    /** Each sentence behind its key: "T" ahead of the promises, "P7" at promise 7, "N" behind them. */
    private static final Set<String> SENTENCES = read();
    private static final Set<String> QUOTED = new LinkedHashSet<>();

    private Doc() {
    }

    /** Begins the tests of some sentences that stand at a key; the answers that follow are told as theirs. */
    static void says(String key, String... sentences) {
        Check.about(key + " \"" + sentences[0] + "\"");
        for (String sentence : sentences) {
            QUOTED.add(key + " " + sentence);
            if (!SENTENCES.isEmpty()) {
                Check.is("the document says at " + key + ": " + sentence,
                    SENTENCES.contains(key + " " + sentence), true);
            }
        }
    }

    static void finish() {
        Check.about("the document");
        if (SENTENCES.isEmpty()) {
            System.out.println("there is no " + PATH + ": no quotation was looked up");
        }
        for (String sentence : SENTENCES) {
            Check.is("a test quotes: " + sentence, QUOTED.contains(sentence), true);
        }
    }

    private static Set<String> read() {
        Set<String> found = new LinkedHashSet<>();
        if (!Files.exists(PATH)) {
            return found;
        }
        try {
            String key = "T";
            boolean code = false;
            boolean face = false;
            for (String line : Files.readAllLines(PATH)) {
                if (line.startsWith("#")) {
                    key = keyOf(line);
                    face = line.equals("## The public face");
                } else if (line.startsWith("```")) {
                    code = !code;
                } else if (code && !face) {
                    // A line of the forms; the face is FaceTest's.
                    found.add(key + " " + line.trim().replaceAll(" +", " "));
                } else if (!code) {
                    addSentences(found, key, line);
                }
            }
        } catch (IOException e) {
            throw new IllegalStateException(e);
        }
        return found;
    }

    private static String keyOf(String heading) {
        Matcher promise = Pattern.compile("## Promise (\\d+):.*").matcher(heading);
        return promise.matches() ? "P" + promise.group(1) : heading.equals("## Not promised") ? "N" : "T";
    }

    private static void addSentences(Set<String> found, String key, String line) {
        String text = line.replaceFirst("^- ", "").replaceFirst("^`[^`]*\\([^`]*`: ", "");
        for (String sentence : text.split("(?<=\\.\\)?) (?=[A-Z(])")) {
            boolean heading = sentence.matches("\\w*( text)?\\.?");
            boolean plainNumber = sentence.matches("`\\w+`: number of a (child|school)");
            if (!heading && !plainNumber) {
                found.add(key + " " + sentence);
            }
        }
    }
}
