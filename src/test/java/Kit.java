import java.nio.charset.StandardCharsets;

/** What the tests share: texts fed by twenties, and answers held against those that are due. */
final class Kit {
    private final String name;
    private int wrong;
    private int asked;

    Kit(String name) {
        this.name = name;
    }

    void due(String call, long got, long want) {
        asked++;
        if (got != want) {
            wrong++;
            System.out.println(name + ": " + call + " answered " + got + ", due is " + want);
        }
    }

    /** Ends the test, with 1 if an answer was not as due. */
    void end() {
        System.out.println(name + ": " + asked + " answers, " + wrong + " not as due");
        if (wrong != 0) {
            System.exit(1);
        }
    }

    /** The five ints of each twenty bytes of a text, blanks behind it. */
    static int[][] twenties(byte[] text) {
        int[][] rows = new int[(text.length + 19) / 20][5];
        for (int i = 0; i < rows.length * 20; i++) {
            int b = i < text.length ? text[i] & 255 : 32;
            rows[i / 20][i % 20 / 4] |= b << 24 - 8 * (i % 4);
        }
        return rows;
    }

    static byte[] bytes(String text) {
        return text.getBytes(StandardCharsets.ISO_8859_1);
    }

    static int told(BottlePost x, String text) {
        for (int[] r : twenties(bytes(text))) {
            x.feed(r[0], r[1], r[2], r[3], r[4]);
        }
        return x.sea(text.length());
    }

    /** A new object with a sea that must be read. */
    static BottlePost sea(String text) {
        BottlePost x = new BottlePost();
        int lines = told(x, text);
        if (lines < 1) {
            throw new IllegalStateException(text + " was refused: " + lines + " at " + x.fault(1));
        }
        return x;
    }

    static void tray(BottlePost x, int tray, int sort, long... row) {
        x.numbers(tray, sort, row.length);
        for (int i = 0; i < row.length; i++) {
            x.write(tray, i, row[i]);
        }
    }
}
