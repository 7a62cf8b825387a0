import java.nio.file.Files;
import java.nio.file.Path;
import java.util.regex.Matcher;
import java.util.regex.Pattern;

/** The rules of LANGUAGE.md that can be read off the source: words and signs that it leaves out. */
public final class LanguageTest {
    private static final Due due = new Due();
    private static final String[] LEFT_OUT = {
        "\\bthrow\\b", "\\bthrows\\b", "\\btry\\b", "\\bcatch\\b", "\\bsynchronized\\b", "\\bassert\\b", "->", "::",
        "Exact\\b", "\\bprotected\\b", "^package\\b", "\\bstatic \\{", "\\bSystem\\.(?!arraycopy)", "\\bRandom\\b",
        "\\bMath\\.random", "\\bThread\\b", "\\bwhile \\(true\\)", "for \\(;;\\)", "\\bvar\\b", "\\bthrowable\\b",
        "\\bhashCode\\b", "\\btoString\\b"};

    public static void main(String[] args) throws Exception {
        String source = Files.readString(Path.of("src/main/java/DollsVote.java"));
        String code = source.replaceAll("(?s)/\\*.*?\\*/", "").replaceAll("//[^\n]*", "");
        for (String left : LEFT_OUT) {
            Matcher found = Pattern.compile(left, Pattern.MULTILINE).matcher(code);
            due.so("left out: " + left, !found.find());
        }
        Matcher imports = Pattern.compile("^import (.*);", Pattern.MULTILINE).matcher(code);
        while (imports.find()) {
            due.so("imported: " + imports.group(1), imports.group(1).equals("java.util.Arrays"));
        }
        for (int i = 0; i < source.length(); i++) {
            if (source.charAt(i) > 126) {
                due.so("a sign beyond 126 at " + i, false);
            }
        }
        methodsStayShort(code);
        due.end();
    }

    private static void methodsStayShort(String code) {
        int begun = -1;
        String indent = "";
        String[] lines = code.split("\n");
        for (int i = 0; i < lines.length; i++) {
            String bare = lines[i].stripLeading();
            boolean head = lines[i].matches(" {4}( {4})?(public |private |static )*(int|void|boolean|[A-Z]\\w*)\\b.*\\(.*\\{")
                && !bare.startsWith("return") && !bare.contains(" class ");
            if (head) {
                begun = i;
                indent = lines[i].substring(0, lines[i].length() - bare.length());
            } else if (begun >= 0 && lines[i].equals(indent + "}")) {
                due.so("at most sixty lines: " + lines[begun], i - begun <= 60);
                begun = -1;
            }
        }
    }
}
