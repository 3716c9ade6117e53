import java.io.IOException;
import java.nio.file.Files;
import java.nio.file.Path;
import java.util.Set;
import java.util.TreeSet;
import java.util.regex.Matcher;
import java.util.regex.Pattern;

/** Those rules of LANGUAGE.md that a look at the source can tell. */
final class LanguageTest {
    private static final String[] NEVER = {"\\bthrow\\b", "\\btry\\b", "\\bcatch\\b", "\\bsynchronized\\b", "\\bassert\\b", "\\bimport\\b",
        "\\bpackage\\b", "->", "::", "\\bstatic\\s*\\{", "\\bequals\\b", "\\bhashCode\\b", "\\btoString\\b", "\\bObject\\b", "\\bfloat\\b",
        "\\bdouble\\b", "\\bfinalize\\b", "\\bThread\\b", "\\bwhile\\s*\\(\\s*true", "for\\s*\\(\\s*;", "\\bprotected\\b", "\\bvar\\b", "@"};
    private static final String LIBRARY = " Math.max Math.min Integer.bitCount System.arraycopy ";
    private static final int MOST_LINES = 60;

    private LanguageTest() { }

    public static void main(String[] args) throws IOException {
        Due due = new Due("LanguageTest");
        String source = Files.readString(Path.of(args[0]));
        String code = source.replaceAll("(?s)/\\*.*?\\*/", " ").replaceAll("//[^\n]*", " ").replaceAll("'(\\\\.|[^'\\\\])'", "'x'");
        for (String never : NEVER) {
            due.is("never " + never, Pattern.compile(never).matcher(code).find() ? 1 : 0, 0);
        }
        for (char sign : source.toCharArray()) {
            due.is("a sign of 1 to 127", sign > 0 && sign < 128 ? 1 : 0, 1);
        }
        library(due, code);
        names(due, code);
        sizes(due, code);
        due.end();
    }

    private static void library(Due due, String code) {
        Matcher m = Pattern.compile("\\b(Math|Integer|Long|System|Arrays|String|Character|List)\\.\\w+").matcher(code);
        while (m.find()) {
            due.is("the library has " + m.group(), LIBRARY.contains(" " + m.group() + " ") ? 1 : 0, 1);
        }
        Matcher statics = Pattern.compile("\\bstatic\\s+(?!final)[\\w\\[\\]]+\\s+\\w+\\s*[=;]").matcher(code);
        due.is("static state is final", statics.find() ? 1 : 0, 0);
        Matcher nested = Pattern.compile("\\bclass\\s+\\w+").matcher(code);
        int classes = 0;
        while (nested.find()) {
            classes++;
        }
        due.is("at most thirteen classes", classes <= 13 ? 1 : 0, 1);
        due.is("nested ones are private, static, final", code.split("private static final class", -1).length, classes);
    }

    /** No private method, and none of a class inside, bears the name of a public one. */
    private static void names(Due due, String code) {
        Set<String> open = new TreeSet<>();
        Matcher m = Pattern.compile("\\bpublic int (\\w+)\\(").matcher(code);
        while (m.find()) {
            open.add(m.group(1));
        }
        due.is("public methods", open.size(), 39);
        Matcher others = Pattern.compile("(?m)^ +(?:private |static )*(?:int|boolean|void|int\\[\\]|Text) (\\w+)\\([^;]*\\{").matcher(code);
        int found = 0;
        while (others.find()) {
            found++;
            due.is("a name of its own: " + others.group(1), open.contains(others.group(1)) ? 1 : 0, 0);
        }
        due.is("private ones were found", found > 40 ? 1 : 0, 1);
    }

    private static void sizes(Due due, String code) {
        String[] lines = code.split("\n");
        int found = 0;
        for (int i = 0; i < lines.length; i++) {
            Matcher m = Pattern.compile("( {4}| {8})(?! )(?:public |private |static )*[\\w\\[\\] ]+\\(([^;]*)\\) \\{").matcher(lines[i]);
            if (!m.matches() || lines[i].matches(" *(if|for|switch|while) .*")) {
                continue;
            }
            int end = i;
            while (end < lines.length && !lines[end].equals(m.group(1) + "}")) {
                end++;
            }
            found++;
            due.is("at most seven parameters:" + lines[i], m.group(2).split(",").length <= 7 ? 1 : 0, 1);
            due.is("not too long:" + lines[i], end - i < MOST_LINES ? 1 : 0, 1);
        }
        due.is("methods were found: " + found, found > 90 ? 1 : 0, 1);
    }
}
