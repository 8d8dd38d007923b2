import java.io.IOException;
import java.nio.file.Files;
import java.nio.file.Path;
import java.util.regex.Matcher;
import java.util.regex.Pattern;

/** What of LANGUAGE.md can be seen in the text of the class: words that it leaves out, methods that are too long. */
public final class LanguageTest {
    private static final Check check = new Check("LanguageTest");
    private static final int LONGEST = 60;
    private static final String[] LEFT_OUT = {
        "\\bthrow\\b", "\\bthrows\\b", "\\btry\\b", "\\bcatch\\b", "\\bfinally\\b", "\\bsynchronized\\b", "\\bassert\\b", "\\bimport\\b",
        "\\bpackage\\b", "->", "::", "\\bstatic\\s*\\{", "\\bObject\\b", "\\bequals\\s*\\(", "\\bhashCode\\b", "\\btoString\\b", "@",
        "\\bSystem\\.(?!arraycopy)", "\\bMath\\.\\w*Exact", "\\bvar\\b", "\\bprotected\\b", "\\bvolatile\\b", "\\bInteger\\.parse"};

    public static void main(String[] args) throws IOException {
        String text = Files.readString(Path.of("src/main/java/BoxOnARope.java"));
        String code = withoutCommentsAndTexts(text);
        for (String left : LEFT_OUT) {
            Matcher m = Pattern.compile(left).matcher(code);
            check.is("rule 4, 5 or 6: '" + left + "' stands there", !m.find());
        }
        for (int i = 0; i < text.length(); i++) {
            if (text.charAt(i) > 126) check.is("sign " + (int) text.charAt(i) + " at " + i, false);
        }
        check.is("texts are not joined by +", !Pattern.compile("\"\\s*\\+|\\+\\s*\"").matcher(code).find());
        methodsAreShort(text);
        check.end();
    }

    private static String withoutCommentsAndTexts(String text) {
        return text.replaceAll("(?s)/\\*.*?\\*/", " ").replaceAll("//[^\n]*", " ").replaceAll("\"[^\"\n]*\"", "\"\"");
    }

    private static void methodsAreShort(String text) {
        String[] lines = text.split("\n");
        for (int i = 0; i < lines.length; i++) {
            if (!lines[i].matches("\\s+(?:[a-z]+ )*[\\w\\[\\]]+ ?\\w*\\(.*\\) \\{") || lines[i].matches("\\s+(?:if|for|while|switch|\\}).*")) continue;
            String end = lines[i].replaceAll("\\S.*", "") + "}";
            int last = i;
            while (last < lines.length && !lines[last].equals(end)) last++;
            check.is(lines[i].trim() + " is longer than " + LONGEST + " lines", last - i < LONGEST);
        }
    }
}
