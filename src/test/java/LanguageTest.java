import java.io.IOException;
import java.lang.reflect.Field;
import java.lang.reflect.Modifier;
import java.nio.file.Files;
import java.nio.file.Path;
import java.util.regex.Matcher;
import java.util.regex.Pattern;

/** Those rules of LANGUAGE.md that the text of the class alone can show to be broken. */
public final class LanguageTest {
    private static final Due DUE = new Due("LanguageTest");

    private LanguageTest() {
    }

    public static void main(String[] args) throws IOException {
        String text = Files.readString(Path.of("src/main/java/KeyTrees.java"));
        for (int i = 0; i < text.length(); i++) DUE.isTrue("plain sign at " + i, text.charAt(i) < 127);
        String code = text.replaceAll("(?s)/\\*.*?\\*/", " ").replaceAll("//[^\n]*", " ");
        String[] ruledOut = {"\\bthrow\\b", "\\btry\\b", "\\bcatch\\b", "\\bfinally\\b", "\\bsynchronized\\b",
            "\\bassert\\b", "\\bpackage\\b", "\\bnative\\b", "\\bvolatile\\b", "->", "::", "\\bstatic\\s*\\{",
            "\\bthrows\\b", "Exact\\b", "\\bThread\\b", "\\bRandom\\b", "System\\.(?!arraycopy\\b)", "\\bprotected\\b",
            "\\bhashCode\\b", "\\bObject\\b", "\"", "@", "\\bimport (?!java\\.util\\.Arrays;)",
            "static (?!final\\b)[\\w\\[\\]]+ \\w+( =|;|,)", "case [^:]*\\bwhen\\b"};
        for (String rule : ruledOut) DUE.is("places of " + rule, places(code, rule), 0);
        DUE.isTrue("at most twelve classes", places(code, "\\b(class|record|enum|interface) \\w+") <= 12);
        for (Matcher m = Pattern.compile("\\w+ \\w+\\(([^()]*)\\) \\{").matcher(code); m.find();) {
            DUE.isTrue("at most seven parameters: " + m.group(), m.group(1).split(",").length <= 7);
        }
        methodsAreShort(text);
        library(code);
        fields(KeyTrees.class);
        for (Class<?> inner : KeyTrees.class.getDeclaredClasses()) fields(inner);
        DUE.end();
    }

    /** Of the library rule 4 lets in these functions, and no constants. */
    private static void library(String code) {
        String classes = "Arrays|System|Integer|Long|Math|List|Character|Boolean|Objects";
        Pattern use = Pattern.compile("\\b(" + classes + ")\\.(\\w+\\(?)");
        for (Matcher m = use.matcher(code); m.find();) {
            String name = m.group(1) + "." + m.group(2);
            boolean numbers = m.group(1).matches("Integer|Long|Math") && name.endsWith("(");
            boolean let = name.matches("Arrays\\.(fill|copyOf|copyOfRange)\\(|System\\.arraycopy\\(|List\\.of\\(");
            DUE.isTrue("let in: " + name, numbers || let || name.equals("Arrays;"));
        }
    }

    /** Rules 3, 5 and 11: some twenty fields a class, of the types that are let in, static ones final. */
    private static void fields(Class<?> type) {
        int own = 0;
        for (Field field : type.getDeclaredFields()) {
            boolean constant = Modifier.isStatic(field.getModifiers());
            if (constant) DUE.isTrue(field + " is final", Modifier.isFinal(field.getModifiers()));
            else own++;
            Class<?> part = field.getType().isArray() ? field.getType().getComponentType() : field.getType();
            boolean ofOwn = part.getDeclaringClass() == KeyTrees.class;
            DUE.isTrue(field + " is of a type let in", part.isPrimitive() || ofOwn || part == String.class);
        }
        DUE.isTrue(type + " has some twenty fields", own <= 20);
    }

    private static int places(String code, String rule) {
        int places = 0;
        for (Matcher m = Pattern.compile(rule).matcher(code); m.find();) places++;
        return places;
    }

    /** A method ends with the first brace that stands as far in as it does. */
    private static void methodsAreShort(String text) {
        String[] lines = text.split("\n");
        for (int from = 0; from < lines.length; from++) {
            Matcher head = Pattern.compile("^( +)(?!.*\\bclass\\b)\\w[^=;]*\\) \\{$").matcher(lines[from]);
            if (!head.find()) continue;
            int to = from;
            while (to < lines.length && !lines[to].equals(head.group(1) + "}")) to++;
            DUE.isTrue("short: " + lines[from].trim(), to - from <= 60);
        }
    }
}
