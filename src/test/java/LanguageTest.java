import java.nio.file.Files;
import java.nio.file.Path;
import java.util.regex.Matcher;
import java.util.regex.Pattern;

/** Those rules of ../shared/LANGUAGE.md that can be seen from the program's words. */
public final class LanguageTest {
    private static final Check CHECK = new Check();
    private static final String[] FORBIDDEN = {
        "\\bthrow\\b", "\\btry\\b", "\\bcatch\\b", "\\bsynchronized\\b", "\\bassert\\b", "\\bpackage\\b", "->", "::",
        "\\bequals\\s*\\(", "\\bhashCode\\b", "\\btoString\\s*\\(\\s*\\)\\s*\\{", "\\w+Exact\\b", "\\bprotected\\b",
        "\\bstatic\\s*\\{", "\\bThread\\b", "\\bSystem\\.(?!arraycopy\\b)", "\\bRandom\\b", "\"", "\\bdouble\\b",
        "\\bfloat\\b",
    };
    private static final int LONGEST_METHOD = 60;
    private static final int MOST_CLASSES = 12;
    private static final int MOST_PARAMETERS = 7;

    public static void main(String[] args) throws Exception {
        String source = Files.readString(Path.of("src/main/java/SeekLeague.java"));
        String code = withoutComments(source);
        noForbiddenWords(code);
        onlyListedImports(code);
        signsArePlain(source);
        methodsAreShort(code);
        classesAreFewAndStatic(code);
        CHECK.finish("LanguageTest");
    }

    private static String withoutComments(String source) {
        return source.replaceAll("(?s)/\\*.*?\\*/", "").replaceAll("//[^\n]*", "");
    }

    private static int count(String pattern, String code) {
        Matcher matcher = Pattern.compile(pattern).matcher(code);
        int count = 0;
        while (matcher.find()) {
            count++;
        }
        return count;
    }

    private static void noForbiddenWords(String code) {
        for (String pattern : FORBIDDEN) {
            CHECK.due("uses of " + pattern, count(pattern, code), 0);
        }
    }

    private static void onlyListedImports(String code) {
        CHECK.due("imports", count("\\bimport\\b", code), count("\\bimport java\\.util\\.(Arrays|ArrayList|List);", code));
    }

    private static void signsArePlain(String source) {
        CHECK.holds("signs from 1 to 127", source.chars().allMatch(sign -> sign >= 1 && sign <= 127));
    }

    private static void methodsAreShort(String code) {
        String[] lines = code.split("\n");
        int begin = -1;
        for (int i = 0; i < lines.length; i++) {
            if (lines[i].matches(" {4,8}[\\w\\[\\] ]+\\([^;]*\\) \\{") && !lines[i].trim().startsWith("if")) {
                begin = i;
                CHECK.holds("few parameters: " + lines[i].trim(), lines[i].split(",").length <= MOST_PARAMETERS);
            } else if (begin >= 0 && lines[i].matches(" {4,8}\\}")) {
                CHECK.holds("short: " + lines[begin].trim(), i - begin < LONGEST_METHOD);
                begin = -1;
            }
        }
    }

    private static void classesAreFewAndStatic(String code) {
        int classes = count("\\b(class|record|enum|interface) \\w+ ", code);
        CHECK.holds("few classes", classes <= MOST_CLASSES);
        CHECK.due("static classes inside", count("private static final class \\w+ ", code), classes - 1);
    }
}
