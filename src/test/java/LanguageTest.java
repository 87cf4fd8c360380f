import java.io.IOException;
import java.lang.reflect.Constructor;
import java.lang.reflect.Field;
import java.lang.reflect.Method;
import java.lang.reflect.Modifier;
import java.nio.file.Files;
import java.nio.file.Path;
import java.util.ArrayList;
import java.util.Arrays;
import java.util.List;
import java.util.Set;
import java.util.TreeSet;

/** The document's face, and those rules of LANGUAGE.md that a look at the class and its text can tell. */
final class LanguageTest {
    private static final Kit KIT = new Kit("LanguageTest");
    private static final String[] FACE = {
        "int feed(int, int, int, int, int)", "int sea(int)", "int fault(int)", "int cell(int)", "int shore(int, int)",
        "int current(int, int)", "int wind(int, int)", "int bottle(int, int)", "int throwsIt(int, int, boolean)",
        "int tides(int)", "int storm(int, int)", "int lift(int)", "int undo(int)", "int judge(int, int)",
        "int perform(int)", "int season(int, int)", "int fate(int, int)", "int whereIn(int, int)",
        "int comesTo(int, int)", "int keeper(int, int, boolean, int)", "int reaches(int, int, boolean, int)",
        "int best(int, int, int)", "int reachers(int)", "int relay(int, int, int)", "int keepers(int)",
        "int without(int, int, int)", "int catches(int, int)", "int net(int, int)", "long calm(int)",
        "long deadly(boolean)", "int eddy(int, boolean)", "int seen(int)", "int thrower(int, int, int)",
        "int suspects(int)", "int numbers(int, int, int)", "long write(int, int, long)", "int lists(int, int)",
        "int image(int)", "int restore(int)", "int count(int)"};

    public static void main(String[] args) throws IOException {
        face();
        classes();
        text(Files.readString(Path.of("src/main/java/BottlePost.java")));
        KIT.end();
    }

    private static void holds(String what, boolean truth) {
        KIT.due(what, truth ? 1 : 0, 1);
    }

    private static void face() {
        Set<String> open = new TreeSet<>();
        Set<String> names = new TreeSet<>();
        for (Method m : BottlePost.class.getDeclaredMethods()) {
            if (Modifier.isPublic(m.getModifiers())) {
                List<String> takes = new ArrayList<>();
                for (Class<?> type : m.getParameterTypes()) {
                    takes.add(type.getName());
                }
                open.add(m.getReturnType().getName() + " " + m.getName() + "(" + String.join(", ", takes) + ")");
                names.add(m.getName());
                holds(m.getName() + " is of the object", !Modifier.isStatic(m.getModifiers()));
            }
        }
        holds("the face is " + open, open.equals(new TreeSet<>(Arrays.asList(FACE))));
        for (Method m : BottlePost.class.getDeclaredMethods()) {
            boolean hidden = Modifier.isPrivate(m.getModifiers()) && !names.contains(m.getName());
            holds(m.getName() + " is public, or private by another name", Modifier.isPublic(m.getModifiers()) || hidden);
        }
        for (Class<?> inner : BottlePost.class.getDeclaredClasses()) {
            for (Method m : inner.getDeclaredMethods()) {
                holds(m + " has a name of its own", !Modifier.isPrivate(m.getModifiers()) || !names.contains(m.getName()));
            }
        }
        for (Field f : BottlePost.class.getDeclaredFields()) {
            holds(f.getName() + " is private", Modifier.isPrivate(f.getModifiers()) || f.getName().equals("NONE"));
        }
        for (Constructor<?> c : BottlePost.class.getDeclaredConstructors()) {
            holds("one public constructor", Modifier.isPublic(c.getModifiers()) && c.getParameterCount() == 0);
        }
        int modifiers = BottlePost.class.getModifiers();
        holds("public and final", Modifier.isPublic(modifiers) && Modifier.isFinal(modifiers));
    }

    private static void classes() {
        List<Class<?>> all = new ArrayList<>(Arrays.asList(BottlePost.class.getDeclaredClasses()));
        for (Class<?> inner : all) {
            holds(inner + " is static", Modifier.isStatic(inner.getModifiers()));
            holds(inner + " is not open", !Modifier.isPublic(inner.getModifiers()));
        }
        all.add(BottlePost.class);
        holds("at most twelve classes", all.size() <= 12);
        for (Class<?> c : all) {
            int fields = 0;
            for (Field f : c.getDeclaredFields()) {
                boolean fixed = Modifier.isStatic(f.getModifiers());
                fields += fixed ? 0 : 1;
                holds(c + "." + f.getName() + " is final if static", !fixed || Modifier.isFinal(f.getModifiers()));
            }
            holds(c + " has some twenty fields: " + fields, fields <= 21);
            for (Method m : c.getDeclaredMethods()) {
                holds(m + " takes at most seven", m.getParameterCount() <= 7);
            }
        }
    }

    private static void text(String source) {
        String code = source.replaceAll("(?s)/\\*.*?\\*/", "").replaceAll("//[^\n]*", "");
        code = code.replaceAll("\"[^\"\n]*\"", "\"\"").replaceAll("'.'", "' '");
        String[] never = {"throw", "try", "catch", "synchronized", "assert", "double", "float", "equals", "hashCode",
            "toString", "getClass", "new Object", "Exact", "yield", "var", "package", "finalize", "Random", "Thread"};
        for (String word : never) {
            holds("no " + word, !code.matches("(?s).*\\b" + word + "\\b.*"));
        }
        holds("no lambda", !code.contains("->"));
        holds("no method reference", !code.contains("::"));
        holds("no texts joined by +", !code.matches("(?s).*(\"\" \\+|\\+ \"\").*"));
        holds("one import", code.split("\nimport |^import ").length == 2);
        holds("signs 1 to 127 alone", source.chars().allMatch(c -> c > 0 && c < 128));
        methodsAreShort(code);
    }

    /** From a line that opens a method to the brace that closes it, by how far it is set in. */
    private static void methodsAreShort(String code) {
        String[] lines = code.split("\n");
        for (int i = 0; i < lines.length; i++) {
            String line = lines[i];
            boolean opens = line.matches(" {4,8}[a-zA-Z].*\\(.*\\) \\{") && !line.matches(".*\\b(if|for|while|switch)\\b.*");
            if (opens) {
                String closing = line.substring(0, line.length() - line.stripLeading().length()) + "}";
                int end = i;
                while (end < lines.length && !lines[end].equals(closing)) {
                    end++;
                }
                holds(line.strip() + " is short: " + (end - i), end - i <= 60);
            }
        }
    }
}
