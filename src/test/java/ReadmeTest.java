import java.io.IOException;
import java.nio.file.Files;
import java.nio.file.Path;
import java.util.regex.Matcher;
import java.util.regex.Pattern;

/** The example in README.md: each call of it answers what stands behind it. */
public final class ReadmeTest {
    private static final Pattern TAPE = Pattern.compile("^tape\\(w, \"([^\"]*)\"\\);$");
    private static final Pattern CALL = Pattern.compile("^w\\.(\\w+)\\(([^)]*)\\); +// (-?\\d+|true|false)\\b.*$");
    private static final String[] FACE = {"feed", "end", "train", "rule", "force", "person", "air", "seat", "stretch", "mile", "pull",
        "turn", "seats", "say", "undo", "ahead", "which", "sit", "plan", "comes", "gains", "rests", "swing", "log", "ruled", "look",
        "seed", "journeys", "count", "image", "back"};

    public static void main(String[] args) throws IOException {
        String readme = Files.readString(Path.of("README.md"));
        Script script = new Script();
        int made = 0;
        for (String line : readme.split("\n")) {
            made += follow(script, line.trim()) ? 1 : 0;
        }
        Window.due("README.md has an example", made > 0 ? 1 : 0, 1);
        for (String call : FACE) {
            Window.due("README.md tells of " + call, readme.contains("`" + call + "(") ? 1 : 0, 1);
        }
        Window.close();
    }

    private static boolean follow(Script script, String line) {
        Matcher tape = TAPE.matcher(line);
        Matcher call = CALL.matcher(line);
        if (tape.matches()) {
            Window.due(line, script.make("tape: " + tape.group(1)), tape.group(1).length());
            return true;
        }
        if (call.matches()) {
            String numbers = number(call.group(2).replace(",", ""));
            Window.due(line, script.make((call.group(1) + " " + numbers).trim()), Integer.parseInt(number(call.group(3))));
            return true;
        }
        // What puts a text on the tape is not part of the journey.
        boolean helps = line.startsWith("w.feed(four") || line.startsWith("w.end(");
        Window.due("a call without its answer: " + line, line.startsWith("w.") && !helps ? 1 : 0, 0);
        return false;
    }

    private static String number(String text) {
        return text.replace("true", "1").replace("false", "0").replace("StrapWindow.NONE", "-1");
    }
}
