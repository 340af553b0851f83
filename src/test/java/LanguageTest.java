import java.lang.reflect.Field;
import java.lang.reflect.Method;
import java.lang.reflect.Modifier;
import java.nio.file.Files;
import java.nio.file.Path;
import java.util.Map;
import java.util.Set;
import java.util.TreeMap;
import java.util.TreeSet;
import java.util.regex.Matcher;
import java.util.regex.Pattern;

/** Those rules of ../shared/LANGUAGE.md that can be seen from the program's words and members. */
public final class LanguageTest {
    private static final Check CHECK = new Check();
    private static final String[] FORBIDDEN = {
        "\\bthrow\\b", "\\btry\\b", "\\bcatch\\b", "\\bsynchronized\\b", "\\bassert\\b", "\\bpackage\\b", "->", "::",
        "\\bequals\\s*\\(", "\\bhashCode\\b", "\\btoString\\s*\\(\\s*\\)\\s*\\{", "\\w+Exact\\b", "\\bprotected\\b",
        "\\bstatic\\s*\\{", "\\bThread\\b", "\\bSystem\\.(?!arraycopy\\b)", "\\bRandom\\b", "\"", "\\bdouble\\b",
        "\\bfloat\\b",
    };
    private static final int LONGEST_METHOD = 60;
    private static final int MOST_CLASSES = 12;
    private static final int MOST_PARAMETERS = 7;
    private static final int DEEPEST_CALLS = 8;
    private static final int MOST_FIELDS = 20;
    private static final Set<String> LIBRARY_CALLS = Set.of("Math.min", "Math.max", "Math.floorMod",
            "Integer.bitCount", "System.arraycopy", "Arrays.fill");

    public static void main(String[] args) throws Exception {
        String source = Files.readString(Path.of("src/main/java/SeekLeague.java"));
        String code = withoutComments(source);
        noForbiddenWords(code);
        onlyListedImports(code);
        signsArePlain(source);
        methodsAreShort(code);
        classesAreFewAndStatic(code);
        callsAreNotDeep(code);
        onlyListedLibraryCalls(code);
        objectsAreMadeAtTheBeginning(code);
        loopsHaveCounters(code);
        membersKeepTheRules();
        CHECK.finish("LanguageTest");
    }

    private static String withoutComments(String source) {
        return source.replaceAll("(?s)/\\*.*?\\*/", "").replaceAll("//[^\n]*", "");
    }

    private static int count(String pattern, String code) {
        Matcher matcher = Pattern.compile(pattern).matcher(code);
        int count = 0;
        while (matcher.find()) {
            count++;
        }
        return count;
    }

    private static void noForbiddenWords(String code) {
        for (String pattern : FORBIDDEN) {
            CHECK.due("uses of " + pattern, count(pattern, code), 0);
        }
    }

    private static void onlyListedImports(String code) {
        CHECK.due("imports", count("\\bimport\\b", code),
                count("\\bimport java\\.util\\.(Arrays|ArrayList|List);", code));
    }

    private static void signsArePlain(String source) {
        CHECK.holds("signs from 1 to 127", source.chars().allMatch(sign -> sign >= 1 && sign <= 127));
    }

    private static void methodsAreShort(String code) {
        String[] lines = code.split("\n");
        int begin = -1;
        for (int i = 0; i < lines.length; i++) {
            if (lines[i].matches(" {4,8}[\\w\\[\\] ]+\\([^;]*\\) \\{") && !lines[i].trim().startsWith("if")) {
                begin = i;
                CHECK.holds("few parameters: " + lines[i].trim(), lines[i].split(",").length <= MOST_PARAMETERS);
            } else if (begin >= 0 && lines[i].matches(" {4,8}\\}")) {
                CHECK.holds("short: " + lines[begin].trim(), i - begin < LONGEST_METHOD);
                begin = -1;
            }
        }
    }

    /** The library's calls count too; methods of several classes that bear the same name count as one. */
    private static void callsAreNotDeep(String code) {
        Map<String, String> bodies = new TreeMap<>();
        String pattern = "(?sm)^( +)(?:[\\w\\[\\]]+ )*(\\w+)\\([^()]*\\) \\{\n(.*?)\n\\1\\}\n";
        Matcher method = Pattern.compile(pattern).matcher(code);
        while (method.find()) {
            bodies.merge(method.group(2), method.group(3), (one, other) -> one + other);
        }
        CHECK.holds("the methods are found", bodies.keySet().containsAll(Calls.NAMES));
        for (String name : bodies.keySet()) {
            int depth = depthOf(name, bodies, 1);
            CHECK.holds(name + " calls " + depth + " deep", depth <= DEEPEST_CALLS);
        }
    }

    private static int depthOf(String name, Map<String, String> bodies, int depth) {
        int deepest = depth;
        Matcher call = Pattern.compile("(\\w+)\\(").matcher(bodies.get(name));
        while (call.find() && depth <= DEEPEST_CALLS) {
            boolean isOwn = bodies.containsKey(call.group(1));
            deepest = Math.max(deepest, isOwn ? depthOf(call.group(1), bodies, depth + 1) : depth + 1);
        }
        return deepest;
    }

    private static void onlyListedLibraryCalls(String code) {
        Set<String> own = new TreeSet<>();
        for (Class<?> inside : SeekLeague.class.getDeclaredClasses()) {
            own.add(inside.getSimpleName());
        }
        Matcher call = Pattern.compile("\\b([A-Z]\\w*)\\.(\\w+)\\(").matcher(code);
        while (call.find()) {
            String name = call.group(1) + "." + call.group(2);
            CHECK.holds(name + " is listed", own.contains(call.group(1)) || LIBRARY_CALLS.contains(name));
        }
    }

    /** All calls of a run share one room, so what a league needs is made with it. */
    private static void objectsAreMadeAtTheBeginning(String code) {
        Matcher method = Pattern.compile("(?sm)^( +)(?:[\\w\\[\\]]+ )+\\w+\\([^()]*\\) \\{\n(.*?)\n\\1\\}\n")
                .matcher(code);
        while (method.find()) {
            if (!method.group().matches("(?s) +(private |public )?[A-Z]\\w+\\(.*")) {
                CHECK.due("objects made in " + method.group().split("\n")[0].trim(),
                        count("\\bnew\\b|\\.clone\\(", method.group()), 0);
            }
        }
    }

    private static void loopsHaveCounters(String code) {
        CHECK.due("other loops than those of a counter", count("\\b(while|do)\\b|\\bfor \\([^;]*\\)", code), 0);
    }

    private static void membersKeepTheRules() {
        checkMembers(SeekLeague.class);
        for (Class<?> inside : SeekLeague.class.getDeclaredClasses()) {
            checkMembers(inside);
            for (Method method : inside.getDeclaredMethods()) {
                CHECK.holds(method.getName() + " is no name of the face", !Calls.NAMES.contains(method.getName()));
            }
        }
    }

    private static void checkMembers(Class<?> owner) {
        int fields = 0;
        for (Field field : owner.getDeclaredFields()) {
            int modifiers = field.getModifiers();
            CHECK.holds(field.getName() + " is final, if static",
                    !Modifier.isStatic(modifiers) || Modifier.isFinal(modifiers));
            fields += Modifier.isStatic(modifiers) ? 0 : 1;
        }
        CHECK.holds("few fields in " + owner.getSimpleName(), fields <= MOST_FIELDS);
    }

    private static void classesAreFewAndStatic(String code) {
        int classes = count("\\b(class|record|enum|interface) \\w+ ", code);
        CHECK.holds("few classes", classes <= MOST_CLASSES);
        CHECK.due("static classes inside", count("private static final class \\w+ ", code), classes - 1);
    }
}
