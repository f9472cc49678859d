import java.io.IOException;
import java.nio.file.Files;
import java.nio.file.Path;
import java.util.regex.Matcher;
import java.util.regex.Pattern;

/** What can be seen of the rules of LANGUAGE.md in the text of the class; run from the project's folder. */
final class LanguageTest {
    private static final String[] FORBIDDEN = {"\\bthrow\\b", "\\bthrows\\b", "\\btry\\b", "\\bcatch\\b", "\\bfinally\\b",
        "\\bsynchronized\\b", "\\bassert\\b", "->", "::", "\\bpackage\\b", "\\bimport\\b", "\\bObject\\b", "\\bThread\\b",
        "\\bRandom\\b", "\\bhashCode\\b", "\\w+Exact\\b", "\\bdouble\\b", "\\bfloat\\b", "\\bprotected\\b", "\\bnative\\b",
        "\\bSystem\\.(?!arraycopy\\b)", "\\bMath\\.(?!max\\b|min\\b|abs\\b)", "\\bstatic\\s*\\{"};
    private static final Due DUE = new Due();

    public static void main(String[] args) throws IOException {
        String text = Files.readString(Path.of("src/main/java/UnlikeFerry.java"));
        for (int i = 0; i < text.length(); i++) {
            if (text.charAt(i) > 126) {
                DUE.is("a sign beyond 126 at " + i, text.charAt(i), 126);
            }
        }
        String code = text.replaceAll("(?s)/\\*.*?\\*/", "").replaceAll("//[^\n]*", "").replaceAll("\"[^\"\n]*\"", "\"\"");
        for (String word : FORBIDDEN) {
            Matcher found = Pattern.compile(word).matcher(code);
            DUE.is(word, found.find() ? 1 : 0, 0);
        }
        methods(code);
        DUE.finish("LanguageTest");
    }

    /** Methods stay short, and take seven parameters at the most. */
    private static void methods(String code) {
        String[] lines = code.split("\n");
        Pattern head = Pattern.compile("^( {4}| {8})\\S.*\\((.*)\\) \\{$");
        int seen = 0;
        for (int i = 0; i < lines.length; i++) {
            Matcher m = head.matcher(lines[i]);
            if (m.matches()) {
                int last = i;
                while (last < lines.length - 1 && !lines[last].equals(m.group(1) + "}")) {
                    last++;
                }
                seen++;
                DUE.is("over 60 lines: " + lines[i].trim(), last - i > 60 ? 1 : 0, 0);
                DUE.is("over 7 parameters: " + lines[i].trim(), m.group(2).split(",").length > 7 ? 1 : 0, 0);
            }
        }
        DUE.is("methods were found", seen > 60 ? 1 : 0, 1);
    }
}
