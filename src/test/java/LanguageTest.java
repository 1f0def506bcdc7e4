import java.io.IOException;
import java.nio.file.Files;
import java.nio.file.Path;
import java.util.regex.Matcher;
import java.util.regex.Pattern;

/** Those rules of LANGUAGE.md that the text of the class alone can show to be broken. */
public final class LanguageTest {
    private static final Due DUE = new Due("LanguageTest");

    private LanguageTest() {
    }

    public static void main(String[] args) throws IOException {
        String text = Files.readString(Path.of("src/main/java/KeyTrees.java"));
        for (int i = 0; i < text.length(); i++) DUE.isTrue("plain sign at " + i, text.charAt(i) < 127);
        String code = text.replaceAll("(?s)/\\*.*?\\*/", " ").replaceAll("//[^\n]*", " ");
        String[] ruledOut = {"\\bthrow\\b", "\\btry\\b", "\\bcatch\\b", "\\bfinally\\b", "\\bsynchronized\\b",
            "\\bassert\\b", "\\bpackage\\b", "\\bnative\\b", "\\bvolatile\\b", "->", "::", "\\bstatic\\s*\\{",
            "\\bthrows\\b", "Exact\\b", "\\bThread\\b", "\\bRandom\\b", "System\\.(?!arraycopy\\b)", "\\bprotected\\b",
            "\\bhashCode\\b", "\\bObject\\b", "\"", "@", "\\bimport (?!java\\.util\\.Arrays;)",
            "static (?!final\\b)[\\w\\[\\]]+ \\w+( =|;|,)", "case [^:]*\\bwhen\\b"};
        for (String rule : ruledOut) DUE.is("places of " + rule, places(code, rule), 0);
        DUE.isTrue("at most twelve classes", places(code, "\\b(class|record|enum|interface) \\w+") <= 12);
        for (Matcher m = Pattern.compile("\\w+ \\w+\\(([^()]*)\\) \\{").matcher(code); m.find();) {
            DUE.isTrue("at most seven parameters: " + m.group(), m.group(1).split(",").length <= 7);
        }
        methodsAreShort(text);
        DUE.end();
    }

    private static int places(String code, String rule) {
        int places = 0;
        for (Matcher m = Pattern.compile(rule).matcher(code); m.find();) places++;
        return places;
    }

    /** A method ends with the first brace that stands as far in as it does. */
    private static void methodsAreShort(String text) {
        String[] lines = text.split("\n");
        for (int from = 0; from < lines.length; from++) {
            Matcher head = Pattern.compile("^( +)(?!.*\\bclass\\b)\\w[^=;]*\\) \\{$").matcher(lines[from]);
            if (!head.find()) continue;
            int to = from;
            while (to < lines.length && !lines[to].equals(head.group(1) + "}")) to++;
            DUE.isTrue("short: " + lines[from].trim(), to - from <= 60);
        }
    }
}
