import java.io.IOException;
import java.lang.reflect.Constructor;
import java.lang.reflect.Field;
import java.lang.reflect.Method;
import java.lang.reflect.Modifier;
import java.nio.charset.StandardCharsets;
import java.nio.file.Files;
import java.nio.file.Path;
import java.util.Arrays;
import java.util.Set;
import java.util.TreeSet;
import java.util.regex.Matcher;
import java.util.regex.Pattern;

/** The class has the document's face, and its file keeps to what of LANGUAGE.md can be read off it. */
public final class FaceTest {
    private static final String[] FACE = {
        "make(int,int,int)", "join(int,int,int,int)", "change(int,int,int)", "out(int)", "length(int)",
        "type(int)", "work(int)", "drift(int)", "undo()", "seed(int)", "term(int,int)", "count(int)",
        "first(int,int)", "fits(int,int,int,int,int)", "found(int,int,int)", "guess(int,int,int,int)",
        "image()", "restore()", "told(int,int,int,int,int)", "quotient(int,int,int,int,int)",
        "wrought(int,int,int,int,int,int)", "film(int,int,int,int)", "sheet(int,int,int)", "drop(int)",
        "item(int,int,int,long)", "copy(int,int,int,int,int)"};
    private static final String[] CONSTANTS = {
        "BAD=-1000001", "NOT=-1000002", "FULL=-1000003", "NONE=-1000004", "WIDE=-1000005", "ROOT=-1000006",
        "NULL=-1000011", "CAST=-1000012", "INDEX=-1000013", "SIZE=-1000014"};
    private static final String[] BARRED = {
        "throw", "throws", "try", "catch", "synchronized", "assert", "import", "package", "hashCode", "toString",
        "\\w*Exact", "double", "float", "native", "volatile", "transient", "var", "Object", "Thread", "Random"};

    private static final Check CHECK = new Check("FaceTest");

    public static void main(String[] args) throws Exception {
        face();
        nested();
        text();
        CHECK.end();
    }

    private static void face() throws Exception {
        Class<EtaSeries> c = EtaSeries.class;
        CHECK.holds("public final", Modifier.isPublic(c.getModifiers()) && Modifier.isFinal(c.getModifiers()));
        Set<String> open = new TreeSet<>();
        Set<String> openNames = new TreeSet<>();
        for (Method m : c.getDeclaredMethods()) {
            if (!Modifier.isPrivate(m.getModifiers())) {
                open.add(signature(m));
                openNames.add(m.getName());
                CHECK.holds(m + " is public and answers an int",
                    Modifier.isPublic(m.getModifiers()) && m.getReturnType() == int.class);
            }
        }
        CHECK.holds("methods " + open, open.equals(new TreeSet<>(Arrays.asList(FACE))));
        for (Class<?> inside : withInside(c)) {
            for (Method m : inside.getDeclaredMethods()) {
                boolean own = inside == c && !Modifier.isPrivate(m.getModifiers());
                CHECK.holds(m + " bears no public name", own || !openNames.contains(m.getName()));
                CHECK.holds(m + " has at most seven parameters", m.getParameterCount() <= 7);
            }
        }
        Set<String> constants = new TreeSet<>();
        for (Field f : c.getDeclaredFields()) {
            if (!Modifier.isPrivate(f.getModifiers())) {
                CHECK.holds(f + " is a constant", Modifier.isStatic(f.getModifiers()) && Modifier.isFinal(f.getModifiers()));
                constants.add(f.getName() + "=" + f.getInt(null));
            }
        }
        CHECK.holds("constants " + constants, constants.equals(new TreeSet<>(Arrays.asList(CONSTANTS))));
        Constructor<?>[] made = c.getDeclaredConstructors();
        CHECK.holds("one public constructor without arguments", made.length == 1
            && Modifier.isPublic(made[0].getModifiers()) && made[0].getParameterCount() == 0);
    }

    private static void nested() {
        int classes = withInside(EtaSeries.class).length;
        CHECK.holds(classes + " classes", classes <= 12);
        for (Class<?> inside : withInside(EtaSeries.class)) {
            int mod = inside.getModifiers();
            CHECK.holds(inside + " is static", inside == EtaSeries.class
                || Modifier.isStatic(mod) && !Modifier.isPublic(mod) && !Modifier.isProtected(mod));
            int fields = 0;
            for (Field f : inside.getDeclaredFields()) {
                boolean fixed = Modifier.isStatic(f.getModifiers());
                fields += fixed ? 0 : 1;
                CHECK.holds(f + " is no static state", !fixed || Modifier.isFinal(f.getModifiers()));
            }
            CHECK.holds(inside + " has " + fields + " fields", fields <= 20);
            // So that no constructor can hand a part of the object that it makes to another one.
            for (Constructor<?> made : inside.getDeclaredConstructors()) {
                CHECK.holds(made + " takes nothing", made.getParameterCount() == 0);
            }
        }
    }

    private static void text() throws IOException {
        Path file = Path.of("src/main/java/EtaSeries.java");
        String all = Files.readString(file, StandardCharsets.ISO_8859_1);
        for (int k = 0; k < all.length(); k++) {
            if (all.charAt(k) > 126) {
                CHECK.holds("sign " + (int) all.charAt(k) + " at " + k, false);
            }
        }
        String code = all.replaceAll("(?s)/\\*.*?\\*/", "").replaceAll("//[^\n]*", "");
        for (String word : BARRED) {
            CHECK.holds("no " + word, !Pattern.compile("\\b" + word + "\\b").matcher(code).find());
        }
        CHECK.holds("no lambda or method reference", !code.contains("->") && !code.contains("::"));
        Matcher dotted = Pattern.compile("\\b([A-Z][A-Za-z]+)\\.([a-z]\\w*)").matcher(code);
        Set<String> allowed = Set.of("Math.min", "Math.max", "Math.abs", "Math.floorMod", "System.arraycopy", "Tape.kindOf");
        while (dotted.find()) {
            CHECK.holds(dotted.group() + " is in the library", allowed.contains(dotted.group()));
        }
        shortMethods(code);
    }

    private static void shortMethods(String code) {
        String[] lines = code.split("\n");
        int start = -1;
        for (int k = 0; k < lines.length; k++) {
            if (lines[k].matches("^ {4,8}(public|private)[^=;]*\\([^;]*\\{$") && !lines[k].contains(" class ")) {
                start = k;
            } else if (start >= 0 && lines[k].matches("^ {4,8}\\}$") && indent(lines[k]) == indent(lines[start])) {
                CHECK.holds("short: " + lines[start].trim(), k - start <= 60);
                start = -1;
            }
        }
    }

    private static int indent(String line) {
        return line.length() - line.stripLeading().length();
    }

    private static Class<?>[] withInside(Class<?> c) {
        Class<?>[] inside = c.getDeclaredClasses();
        Class<?>[] all = Arrays.copyOf(inside, inside.length + 1);
        all[inside.length] = c;
        return all;
    }

    private static String signature(Method m) {
        StringBuilder text = new StringBuilder(m.getName()).append('(');
        for (Class<?> p : m.getParameterTypes()) {
            text.append(text.charAt(text.length() - 1) == '(' ? "" : ",").append(p.getName());
        }
        return text.append(')').toString();
    }
}
