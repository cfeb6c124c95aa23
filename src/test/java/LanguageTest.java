import java.io.IOException;
import java.nio.file.Files;
import java.nio.file.Path;
import java.util.regex.Matcher;
import java.util.regex.Pattern;

/** What a look at the source can tell of ../shared/LANGUAGE.md. */
public final class LanguageTest {
    private static final Path SOURCE = Path.of("src/main/java/MeanMan.java");
    private static final int LONGEST_METHOD = 60;
    private static final String[] RULED_OUT = {
        "->", "::", "\\btry\\b", "\\bcatch\\b", "\\bfinally\\b", "\\bsynchronized\\b", "\\bassert\\b", "\\bpackage\\b",
        "\\binstanceof\\b", "\\w+Exact\\(", "\\bSystem\\.(?!arraycopy\\()", "\\bThread\\b", "\\bRandom\\b", "\\bdouble\\b",
        "\\bfloat\\b", "\\bstatic\\s*\\{", "\\bprotected\\b", "\\bvar\\b", "\\.equals\\(", "\\bwhile\\s*\\(true\\)",
        "\\bfor\\s*\\(;;\\)", "\\bcatch\\b", "\\bgetMessage\\b", "\\b(hashCode|toString)\\b"};

    private static int wrong = 0;

    private static void need(boolean so, String what) {
        if (!so) {
            wrong++;
            System.out.println("not so: " + what);
        }
    }

    private static String withoutCommentsAndTexts(String source) {
        return source.replaceAll("(?s)/\\*.*?\\*/", "").replaceAll("//[^\n]*", "").replaceAll("\"[^\"\n]*\"", "\"\"");
    }

    private static void imports(String code) {
        Matcher m = Pattern.compile("(?m)^import ([^;]+);").matcher(code);
        while (m.find()) {
            need(m.group(1).equals("java.util.NoSuchElementException"), "nothing else is imported: " + m.group(1));
        }
    }

    private static void lengthsOfMethods(String source) {
        String[] lines = source.split("\n");
        for (int i = 0; i < lines.length; i++) {
            Matcher m = Pattern.compile("^( {4}| {8})(?! )[^=;]*\\).*\\{$").matcher(lines[i]);
            if (!m.matches() || lines[i].contains(" class ")) {
                continue;
            }
            int end = i;
            while (end < lines.length && !lines[end].equals(m.group(1) + "}")) {
                end++;
            }
            need(end - i <= LONGEST_METHOD, "a method of line " + (i + 1) + " has at most sixty lines");
        }
    }

    public static void main(String[] args) throws IOException {
        String source = Files.readString(SOURCE);
        String code = withoutCommentsAndTexts(source);
        need(source.chars().allMatch(c -> c == '\n' || c >= 32 && c < 127), "the source has plain signs alone");
        for (String out : RULED_OUT) {
            need(!Pattern.compile(out).matcher(code).find(), "there is no " + out);
        }
        imports(code);
        lengthsOfMethods(source);
        System.out.println(wrong == 0 ? "the source keeps to the language" : wrong + " things are not in the language");
        if (wrong != 0) {
            System.exit(1);
        }
    }
}
