import java.io.IOException;
import java.lang.reflect.Field;
import java.lang.reflect.Method;
import java.lang.reflect.Modifier;
import java.nio.file.Files;
import java.nio.file.Path;
import java.util.regex.Matcher;
import java.util.regex.Pattern;

/** README.md: its examples answer what they say, and it names every call and every answer below 0. */
public final class ReadmeTest {
    private static final Due DUE = new Due("ReadmeTest");

    private ReadmeTest() {
    }

    public static void main(String[] args) throws IOException, ReflectiveOperationException {
        String page = Files.readString(Path.of("README.md"));
        DUE.isTrue("an example of the use, one of sheets", examples(page) >= 2);
        String words = page.replaceAll("(?s)```java.*?```", "");
        names(words);
        DUE.isTrue("how the tests are run", words.contains("    .ci/run\n"));
        String[] parts = {"How to use it", "What answers below 0 mean", "Sheets", "How to run its tests"};
        for (String part : parts) {
            DUE.isTrue("part: " + part, words.contains("\n## " + part + "\n"));
        }
        DUE.end();
    }

    /** Tells each example's calls to a new object: how many examples there are. */
    private static int examples(String page) throws ReflectiveOperationException {
        int examples = 0;
        for (Matcher block = Pattern.compile("(?s)```java\n(.*?)```").matcher(page); block.find();) {
            examples++;
            KeyTrees x = new KeyTrees();
            String[] lines = block.group(1).split("\n");
            DUE.isTrue("an object is made first", lines[0].equals("KeyTrees x = new KeyTrees();"));
            for (int i = 1; i < lines.length; i++) call(x, lines[i]);
        }
        return examples;
    }

    /** A line that tells a call, and behind it the answer that is due. */
    private static void call(KeyTrees x, String line) throws ReflectiveOperationException {
        Matcher told = Pattern.compile("x\\.(\\w+)\\(([^)]*)\\); *// (-?\\d+)(: .+)?").matcher(line);
        DUE.isTrue("a call and its answer: " + line, told.matches());
        if (!told.matches()) return;
        Method method = methodOf(told.group(1));
        Class<?>[] types = method.getParameterTypes();
        String[] words = told.group(2).isEmpty() ? new String[0] : told.group(2).split(", ");
        DUE.is("arguments of " + line, words.length, types.length);
        Object[] values = new Object[types.length];
        for (int i = 0; i < types.length; i++) {
            if (types[i] == long.class) values[i] = Long.valueOf(words[i]);
            else if (words[i].startsWith("'")) values[i] = (int) words[i].charAt(1);
            else values[i] = Integer.valueOf(words[i]);
        }
        DUE.is(line, (int) method.invoke(x, values), Integer.parseInt(told.group(3)));
    }

    private static Method methodOf(String name) {
        for (Method method : KeyTrees.class.getMethods()) {
            if (method.getName().equals(name)) return method;
        }
        throw new IllegalArgumentException("README.md tells a call that there isn't: " + name);
    }

    private static void names(String words) throws IllegalAccessException {
        for (Method method : KeyTrees.class.getDeclaredMethods()) {
            if (!Modifier.isPublic(method.getModifiers())) continue;
            DUE.isTrue("names " + method.getName(), words.contains("`" + method.getName() + "`"));
        }
        for (Field field : KeyTrees.class.getFields()) {
            String row = "| `" + field.getName() + "` | " + field.getInt(null) + " | ";
            DUE.isTrue("tells what it means: " + row, words.contains("\n" + row));
        }
    }
}
