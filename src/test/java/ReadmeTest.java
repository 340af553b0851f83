import java.io.File;
import java.io.IOException;
import java.lang.reflect.Field;
import java.lang.reflect.Modifier;
import java.nio.file.Files;
import java.nio.file.Path;
import java.util.regex.Matcher;
import java.util.regex.Pattern;

/** The examples of README.md answer what it says, and it names every call, constant and test. */
public final class ReadmeTest {
    private static final Check CHECK = new Check();
    private static final Pattern MADE = Pattern.compile("SeekLeague league = new SeekLeague\\(\\);");
    private static final Pattern CALL = Pattern.compile(
            "league\\.(\\w+)\\(([^()]*)\\); +// (-?\\d+|[A-Z_]+)(?::.*)?");

    private ReadmeTest() {
    }

    public static void main(String[] args) throws Exception {
        String page = Files.readString(Path.of("README.md"));
        Matcher example = Pattern.compile("(?s)```java\n(.*?)```").matcher(page);
        int examples = 0;
        while (example.find()) {
            examples++;
            tryExample(example.group(1).split("\n"));
        }
        CHECK.due("examples", examples, 2);
        namesAllCalls(page);
        namesAllTests(page);
        CHECK.finish("ReadmeTest");
    }

    private static void tryExample(String[] lines) throws ReflectiveOperationException {
        CHECK.holds("the example makes a league first", MADE.matcher(lines[0]).matches());
        SeekLeague league = new SeekLeague();
        for (int i = 1; i < lines.length; i++) {
            Matcher call = CALL.matcher(lines[i]);
            boolean isCall = call.matches();
            CHECK.holds("a call with its answer: " + lines[i], isCall);
            if (isCall) {
                tryCall(league, call);
            }
        }
    }

    private static void tryCall(SeekLeague league, Matcher call) throws ReflectiveOperationException {
        String[] given = call.group(2).isEmpty() ? new String[0] : call.group(2).split(", ");
        CHECK.due("arguments of " + call.group(), given.length, Calls.argumentsOf(call.group(1)));
        int first = given.length > 0 ? number(given[0]) : 0;
        int second = given.length > 1 ? number(given[1]) : 0;
        CHECK.due(call.group(), Calls.make(league, call.group(1), first, second), number(call.group(3)));
    }

    /** A number, a character between quotes, or the name of a constant. */
    private static int number(String word) throws ReflectiveOperationException {
        if (word.startsWith("'")) {
            return word.charAt(1);
        }
        if (Character.isUpperCase(word.charAt(0))) {
            return SeekLeague.class.getField(word).getInt(null);
        }
        return Integer.parseInt(word);
    }

    private static void namesAllCalls(String page) {
        for (String name : Calls.NAMES) {
            CHECK.holds("names the call " + name, page.contains("`" + name + "`"));
        }
        for (Field field : SeekLeague.class.getDeclaredFields()) {
            if (Modifier.isPublic(field.getModifiers())) {
                CHECK.holds("names the constant " + field.getName(), page.contains("`" + field.getName() + "`"));
            }
        }
    }

    private static void namesAllTests(String page) throws IOException {
        File[] files = new File("src/test/java").listFiles();
        CHECK.holds("the tests are found", files != null && files.length > 0);
        for (File file : files == null ? new File[0] : files) {
            String name = file.getName().replace(".java", "");
            if (name.endsWith("Test")) {
                CHECK.holds("names the test " + name, page.contains("`" + name + "`"));
            }
        }
    }
}
