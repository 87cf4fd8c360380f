import java.nio.charset.StandardCharsets;

/** How a sea is told and used. README.md shows this program and what it prints: ReadmeTest holds it to both. */
final class Example {
    public static void main(String[] args) {
        BottlePost post = new BottlePost();
        int lines = tell(post, "sea 4 2 tides 2;"
            + "shore 0 0 throws east walks 0 1;"
            + "shore 3 0 throws west walks 1;"
            + "rock 2 1;"
            + "current 1 0 2 0; current 2 0 2 2; current 1 1 1 1;");
        System.out.println("lines read: " + lines);

        int b = post.throwsIt(0, 1, true);
        System.out.println("a heavy bottle from shore 0 to shore 1: number " + b);
        System.out.println("it will be kept by shore " + post.fate(b, 2) + " in " + post.fate(b, 1) + " tides");
        System.out.println("kept in two tides: " + post.tides(2));
        System.out.println("what it is, where: " + post.bottle(b, 0) + ", cell " + post.bottle(b, 1));

        System.out.println("the best throw from 0 to 1 comes in " + post.best(0, 1, 0) + " tides");
        System.out.println("one can undo: " + post.count(10) + ", then " + post.undo(1));
        System.out.println("shore 7 can't throw: " + post.throwsIt(7, BottlePost.NONE, false));
        System.out.println("no sea: " + tell(post, "sea 4 2; rock 0 0;") + " at byte " + post.fault(1));
    }

    /** Feeds a text by twenty bytes a call, blanks behind it, and has it read: how many lines, or a fault's code. */
    static int tell(BottlePost post, String text) {
        byte[] bytes = text.getBytes(StandardCharsets.ISO_8859_1);
        for (int i = 0; i < bytes.length; i += 20) {
            post.feed(four(bytes, i), four(bytes, i + 4), four(bytes, i + 8), four(bytes, i + 12), four(bytes, i + 16));
        }
        return post.sea(bytes.length);
    }

    private static int four(byte[] bytes, int from) {
        int told = 0;
        for (int i = from; i < from + 4; i++) {
            told = told << 8 | (i < bytes.length ? bytes[i] & 255 : ' ');
        }
        return told;
    }
}
