import java.io.IOException;
import java.nio.file.Files;
import java.nio.file.Path;
import java.util.regex.Matcher;
import java.util.regex.Pattern;

/** What can be seen from the source's text of LANGUAGE.md's rules. */
public final class LanguageTest {
    private static final String[] RULED_OUT = {
        "\\bthrow\\b", "\\bthrows\\b", "\\btry\\b", "\\bcatch\\b", "\\bfinally\\b", "\\bsynchronized\\b", "\\bassert\\b",
        "->", "::", "\\bpackage\\b", "Exact\\b", "\\bObject\\b", "\\bSystem\\.(?!arraycopy\\b)", "\\bThread\\b",
        "\\bRandom\\b", "\\bMath\\.(?!max\\b|min\\b|abs\\b)", "\\bString\\.", "\\bequals\\b", "\\bhashCode\\b", "\\btoString\\b",
        "\\bvolatile\\b", "\\btransient\\b", "\\bnative\\b", "\\bstatic\\s*\\{", "\\bprotected\\b", "\\bvar\\b", "\\?\\?",
        "\\[\\]\\s*\\[\\]", "\\bextends\\b", "\\bimplements\\b",
    };

    public static void main(String[] args) throws IOException {
        String source = Files.readString(Path.of("src/main/java/ConsentDoors.java"));
        for (char sign : source.toCharArray()) {
            Check.holds("plain signs alone", sign == '\n' || sign >= 32 && sign < 127);
        }
        String code = source.replaceAll("(?s)/\\*.*?\\*/", "").replaceAll("//[^\n]*", "")
                .replaceAll("\"[^\"\n]*\"", "\"\"");
        for (String pattern : RULED_OUT) {
            Matcher m = Pattern.compile(pattern).matcher(code);
            Check.holds("none of " + pattern, !m.find());
        }
        Matcher imports = Pattern.compile("import ([^;]*);").matcher(code);
        while (imports.find()) {
            Check.holds("import " + imports.group(1), imports.group(1).equals("java.util.Arrays"));
        }
        statics(code);
        methods(code);
        Check.finish();
    }

    private static void statics(String code) {
        Matcher m = Pattern.compile("\\bstatic ((?!final)[^;{(]*)[;=]").matcher(code);
        Check.holds("static fields are final", !m.find());
    }

    private static void methods(String code) {
        String[] lines = code.split("\n");
        Pattern head = Pattern.compile("^( {4}| {8})(\\S.*)\\((.*)\\) \\{$");
        for (int i = 0; i < lines.length; i++) {
            Matcher m = head.matcher(lines[i]);
            if (m.matches()) {
                int end = i;
                while (!lines[end].equals(m.group(1) + "}")) {
                    end++;
                }
                Check.holds("sixty lines at most: " + lines[i], end - i <= 60);
                Check.holds("seven parameters at most: " + lines[i], m.group(3).split(",").length <= 7);
            }
        }
    }
}
