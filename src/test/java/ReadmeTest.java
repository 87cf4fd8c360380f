import java.io.ByteArrayOutputStream;
import java.io.IOException;
import java.io.PrintStream;
import java.nio.charset.StandardCharsets;
import java.nio.file.Files;
import java.nio.file.Path;
import java.util.regex.Matcher;
import java.util.regex.Pattern;

/** README.md tells how the class is used: its program is the one that is compiled, its output what that prints. */
final class ReadmeTest {
    private static final Kit KIT = new Kit("ReadmeTest");

    public static void main(String[] args) throws IOException {
        String page = Files.readString(Path.of("README.md"));
        String program = Files.readString(Path.of("src/test/java/Example.java"));
        holds("its program is Example.java", block(page, "java").equals(program));
        holds("it tells what that prints", block(page, "text").equals(printed()));
        everyCallIsTold(page, Files.readString(Path.of("../shared/DOC.md")));
        holds("it tells how the tests are run", page.contains("\n    .ci/run\n"));
        KIT.end();
    }

    private static void holds(String what, boolean truth) {
        KIT.due(what, truth ? 1 : 0, 1);
    }

    private static String block(String page, String kind) {
        Matcher found = Pattern.compile("(?s)\n```" + kind + "\n(.*?\n)```\n").matcher(page);
        return found.find() ? found.group(1) : "";
    }

    private static String printed() {
        PrintStream before = System.out;
        ByteArrayOutputStream bytes = new ByteArrayOutputStream();
        try (PrintStream into = new PrintStream(bytes, true, StandardCharsets.ISO_8859_1)) {
            System.setOut(into);
            Example.main(new String[0]);
        } finally {
            System.setOut(before);
        }
        return bytes.toString(StandardCharsets.ISO_8859_1).replace(System.lineSeparator(), "\n");
    }

    /** Each method of the document's face stands on the page with its own words for what it takes. */
    private static void everyCallIsTold(String page, String document) {
        Matcher face = Pattern.compile("public (?:int|long) (\\w+)\\(([^)]*)\\);").matcher(document);
        int calls = 0;
        while (face.find()) {
            String takes = face.group(2).replaceAll("(int|long|boolean) ", "");
            String call = "`" + face.group(1) + "(" + takes + ")`";
            holds(call + " is told", page.contains(call));
            calls++;
        }
        KIT.due("calls of the face", calls, 40);
    }
}
