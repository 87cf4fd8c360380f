import java.io.IOException;
import java.nio.file.Files;
import java.nio.file.Path;
import java.util.List;
import java.util.regex.Matcher;
import java.util.regex.Pattern;
import java.util.stream.Collectors;
import java.util.stream.Stream;

/** Each word of the document's terms and promises stands in a sentence that some test opens with: none was passed by. */
final class EverySentenceTest {
    private static final Kit KIT = new Kit("EverySentenceTest");
    private static final Pattern SAID = Pattern.compile("says\\((\\d+),\\s*((?:\"[^\"]*\"[\\s+]*)+)\\)");
    /** What is no promise by itself: how the document is set, and the headings of the interface. */
    private static final Pattern ASIDE = Pattern.compile("```(text)?|==== \\d\\.|^## Promise \\d+: [\\w ]+ `[^`]*`:|## Terms");

    public static void main(String[] args) throws IOException {
        String document = Files.readString(Path.of("../shared/DOC.md")).replaceAll("\\s+", " ");
        String tests = sources();
        int constants = document.indexOf("The constants:");
        part(0, document.substring(document.indexOf("## Terms"), constants), tests);
        for (int promise = 1; promise <= 41; promise++) {
            int from = document.indexOf("## Promise " + promise + ":");
            part(promise, document.substring(from, document.indexOf("## ", from + 3)), tests);
        }
        KIT.end();
    }

    private static String sources() throws IOException {
        List<Path> files;
        try (Stream<Path> all = Files.list(Path.of("src/test/java"))) {
            files = all.filter(p -> p.toString().endsWith("Test.java")).sorted().collect(Collectors.toList());
        }
        StringBuilder text = new StringBuilder();
        for (Path file : files) {
            text.append(Files.readString(file));
        }
        return text.toString();
    }

    /** Strikes out of a part of the document what the tests say of it: no word may be left. */
    private static void part(int promise, String part, String tests) {
        boolean[] said = new boolean[part.length()];
        Matcher aside = ASIDE.matcher(part);
        while (aside.find()) {
            strike(said, aside.start(), aside.end());
        }
        Matcher words = SAID.matcher(tests);
        while (words.find()) {
            if (Integer.parseInt(words.group(1)) == promise) {
                String sentence = words.group(2).replaceAll("\"[\\s+]*\"", "").replaceAll("^\"|\"[\\s+]*$", "");
                for (int at = part.indexOf(sentence); at >= 0; at = part.indexOf(sentence, at + 1)) {
                    strike(said, at, at + sentence.length());
                }
            }
        }
        StringBuilder left = new StringBuilder();
        for (int i = 0; i < said.length; i++) {
            left.append(said[i] ? ' ' : part.charAt(i));
        }
        String unsaid = left.toString().replaceAll("\\W+", " ").strip();
        KIT.due("words of part " + promise + " that no test says: " + unsaid, unsaid.length(), 0);
    }

    private static void strike(boolean[] said, int from, int behind) {
        for (int i = from; i < behind; i++) {
            said[i] = true;
        }
    }
}
