import java.io.File;
import java.io.IOException;
import java.lang.reflect.Field;
import java.lang.reflect.Method;
import java.lang.reflect.Modifier;
import java.nio.file.Files;
import java.nio.file.Path;
import java.util.regex.Matcher;
import java.util.regex.Pattern;

/** The examples of README.md answer what they say, and it names every call, refusal and test. */
public final class ReadmeTest {
    private static final Pattern EXAMPLE = Pattern.compile("(?s)```java\n(.*?)```");
    private static final Pattern CALL = Pattern.compile("x\\.(\\w+)\\(([-\\d, ]*)\\); +// (-?\\d+|[A-Z]+|'.')(:.*)?");
    private static final Pattern TYPED = Pattern.compile("for \\(char c : \"(.*)\"\\.toCharArray\\(\\)\\) x\\.type\\(c\\);");

    private static final Check CHECK = new Check("ReadmeTest");

    public static void main(String[] args) throws Exception {
        String page = Files.readString(Path.of("README.md"));
        Matcher example = EXAMPLE.matcher(page);
        int examples = 0;
        while (example.find()) {
            examples++;
            follow(example.group(1));
        }
        CHECK.holds("examples on the page", examples > 0);
        names(page);
        CHECK.end();
    }

    /** Every line of an example is followed; one of another form would not be tested, so it is wrong. */
    private static void follow(String example) throws Exception {
        EtaSeries x = null;
        for (String line : example.split("\n")) {
            Matcher call = CALL.matcher(line);
            Matcher typed = TYPED.matcher(line);
            if (line.equals("EtaSeries x = new EtaSeries();")) {
                x = new EtaSeries();
            } else if (call.matches()) {
                CHECK.due(line, answer(x, call.group(1), call.group(2)), due(call.group(3)));
            } else if (typed.matches()) {
                for (char c : typed.group(1).toCharArray()) {
                    CHECK.holds(line, x.type(c) > 0);
                }
            } else {
                CHECK.holds("'" + line + "' can be followed", false);
            }
        }
    }

    private static int answer(EtaSeries x, String name, String numbers) throws Exception {
        String[] told = numbers.isEmpty() ? new String[0] : numbers.split(", ");
        for (Method m : EtaSeries.class.getDeclaredMethods()) {
            if (Modifier.isPublic(m.getModifiers()) && m.getName().equals(name) && m.getParameterCount() == told.length) {
                Object[] all = new Object[told.length];
                for (int k = 0; k < told.length; k++) {
                    boolean isLong = m.getParameterTypes()[k] == long.class;
                    all[k] = isLong ? (Object) Long.valueOf(told[k]) : (Object) Integer.valueOf(told[k]);
                }
                return (int) m.invoke(x, all);
            }
        }
        throw new IllegalStateException("no call " + name + " of " + told.length + " numbers");
    }

    private static int due(String answer) throws Exception {
        if (answer.charAt(0) == '\'') {
            return answer.charAt(1);
        }
        boolean isNumber = answer.matches("-?\\d+");
        return isNumber ? Integer.parseInt(answer) : EtaSeries.class.getField(answer).getInt(null);
    }

    private static void names(String page) throws IOException {
        for (Method m : EtaSeries.class.getDeclaredMethods()) {
            if (Modifier.isPublic(m.getModifiers())) {
                Matcher row = Pattern.compile("\\| `" + m.getName() + "\\(([^)]*)\\)` \\|").matcher(page);
                boolean found = row.find();
                CHECK.holds("the page has a row for " + m.getName(), found);
                int numbers = !found || row.group(1).isEmpty() ? 0 : row.group(1).split(", ").length;
                CHECK.due("numbers of " + m.getName() + " on the page", numbers, m.getParameterCount());
            }
        }
        for (Field f : EtaSeries.class.getFields()) {
            CHECK.holds("the page names " + f.getName(), page.contains("`" + f.getName() + "`"));
        }
        for (File file : new File("src/test/java").listFiles((folder, name) -> name.endsWith("Test.java"))) {
            CHECK.holds("the page names " + file.getName(), page.contains("src/test/java/" + file.getName()));
        }
        CHECK.holds("the page says how to run the tests", page.contains("\n.ci/run\n"));
    }
}
