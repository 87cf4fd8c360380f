import java.io.IOException;
import java.io.UncheckedIOException;
import java.nio.charset.StandardCharsets;
import java.nio.file.Files;
import java.nio.file.Path;
import java.util.Set;
import java.util.TreeSet;
import java.util.function.IntToLongFunction;

/** What the tests share: texts fed by twenties, and answers held against those that are due. */
final class Kit {
    static final int LEAST = Integer.MIN_VALUE;
    static final int MOST = Integer.MAX_VALUE;

    private final String name;
    private final Set<Integer> held = new TreeSet<>();
    private String document = "";
    private String sentence = "";
    private int wrong;
    private int asked;

    Kit(String name) {
        this.name = name;
    }

    void due(String call, long got, long want) {
        asked++;
        if (got != want) {
            wrong++;
            System.out.println(name + ": " + call + " answered " + got + ", due is " + want);
            if (!sentence.isEmpty()) {
                System.out.println("    the document: " + sentence);
            }
        }
    }

    /** One answer is due for each of these arguments. */
    void each(String call, long want, IntToLongFunction asks, int... with) {
        for (int n : with) {
            due(call + " with " + n, asks.applyAsLong(n), want);
        }
    }

    /** The sentence that the answers from here on hold, word for word from that promise; 0: from the terms. */
    void says(int promise, String words) {
        sentence = words;
        held.add(promise);
        due("whether the document says so (promise " + promise + ")", section(promise).contains(words) ? 1 : 0, 1);
    }

    /** Each of these promises had a sentence of its own. */
    void covers(int first, int last) {
        sentence = "";
        for (int promise = first; promise <= last; promise++) {
            due("whether promise " + promise + " has a test", held.contains(promise) ? 1 : 0, 1);
        }
    }

    private String section(int promise) {
        if (document.isEmpty()) {
            try {
                document = Files.readString(Path.of("../shared/DOC.md")).replaceAll("\\s+", " ");
            } catch (IOException e) {
                throw new UncheckedIOException(e);
            }
        }
        int from = promise == 0 ? 0 : document.indexOf("## Promise " + promise + ":");
        int next = document.indexOf("## ", promise == 0 ? document.indexOf("## Terms") + 3 : from + 3);
        return from < 0 || next < 0 ? "" : document.substring(from, next);
    }

    /** Ends the test, with 1 if an answer was not as due. */
    void end() {
        System.out.println(name + ": " + asked + " answers, " + wrong + " not as due");
        if (wrong != 0) {
            System.exit(1);
        }
    }

    /** The five ints of each twenty bytes of a text, blanks behind it. */
    static int[][] twenties(byte[] text) {
        int[][] rows = new int[(text.length + 19) / 20][5];
        for (int i = 0; i < rows.length * 20; i++) {
            int b = i < text.length ? text[i] & 255 : 32;
            rows[i / 20][i % 20 / 4] |= b << 24 - 8 * (i % 4);
        }
        return rows;
    }

    static byte[] bytes(String text) {
        return text.getBytes(StandardCharsets.ISO_8859_1);
    }

    /** The text, and what blanks make it twenties, comes onto the tape. */
    static void taped(BottlePost x, String text) {
        for (int[] r : twenties(bytes(text))) {
            x.feed(r[0], r[1], r[2], r[3], r[4]);
        }
    }

    static int told(BottlePost x, String text) {
        taped(x, text);
        return x.sea(text.length());
    }

    /** A new object with a sea that must be read. */
    static BottlePost sea(String text) {
        BottlePost x = new BottlePost();
        int lines = told(x, text);
        if (lines < 1) {
            throw new IllegalStateException(text + " was refused: " + lines + " at " + x.fault(1));
        }
        return x;
    }

    static void tray(BottlePost x, int tray, int sort, long... row) {
        x.numbers(tray, sort, row.length);
        for (int i = 0; i < row.length; i++) {
            x.write(tray, i, row[i]);
        }
    }

    /**
     * Lines for a sea of 6 PHASES: light bottles go east from x 1 in one tide and from x 2 in another, and by no other
     * wind. Each comes again 174 tides later. What isn't 0 is driven up to 1,000,000, which tells no direction.
     */
    static String wafts(int first, int second) {
        return "moon 29 springs 0;wind : " + away(1, first) + " * " + away(2, second) + " * 999 * 999 * 9 + 2;";
    }

    private static String away(int x, int tide) {
        return "(" + square("x", x) + " + " + square("tide", tide % 6) + " + " + square("moon", tide % 29) + ")";
    }

    private static String square(String word, int n) {
        return "(" + word + " - " + n + ") * (" + word + " - " + n + ")";
    }
}
