import java.io.IOException;
import java.lang.reflect.Constructor;
import java.lang.reflect.Field;
import java.lang.reflect.Method;
import java.lang.reflect.Modifier;
import java.nio.file.Files;
import java.nio.file.Path;
import java.util.TreeSet;

/** The face: the document's constants, constructor and methods, and no other member that isn't private. */
public final class FaceTest {
    private static final Due DUE = new Due("FaceTest");

    private FaceTest() {
    }

    public static void main(String[] args) throws IOException {
        constants();
        constructors();
        methods();
        headings(Files.readString(Path.of("src/main/java/KeyTrees.java")).replaceAll("\\s+(// (?!----))?", " "));
        DUE.isTrue("public and final", KeyTrees.class.getModifiers() == (Modifier.PUBLIC | Modifier.FINAL));
        for (Class<?> inner : KeyTrees.class.getDeclaredClasses()) {
            int modifiers = inner.getModifiers();
            DUE.isTrue(inner + " is static", Modifier.isStatic(modifiers));
            DUE.isTrue(inner + " is hidden", !Modifier.isPublic(modifiers) && !Modifier.isProtected(modifiers));
        }
        DUE.end();
    }

    private static void constants() {
        DUE.is("BAD", KeyTrees.BAD, -1);
        DUE.is("NOT", KeyTrees.NOT, -2);
        DUE.is("FULL", KeyTrees.FULL, -3);
        DUE.is("NONE", KeyTrees.NONE, -4);
        DUE.is("NULL", KeyTrees.NULL, -11);
        DUE.is("CAST", KeyTrees.CAST, -12);
        DUE.is("INDEX", KeyTrees.INDEX, -13);
        DUE.is("SIZE", KeyTrees.SIZE, -14);
        int open = 0;
        for (Field field : KeyTrees.class.getDeclaredFields()) {
            int modifiers = field.getModifiers();
            if (Modifier.isStatic(modifiers)) DUE.isTrue(field + " is final", Modifier.isFinal(modifiers));
            if (!Modifier.isPrivate(modifiers)) open++;
        }
        DUE.is("constants", open, 8);
    }

    private static void constructors() {
        Constructor<?>[] all = KeyTrees.class.getDeclaredConstructors();
        DUE.is("constructors", all.length, 1);
        DUE.isTrue("public, of nothing", Modifier.isPublic(all[0].getModifiers()) && all[0].getParameterCount() == 0);
    }

    private static void methods() {
        String[] face = {"come/1", "leave/1", "batch/0", "late/2", "lose/2", "mend/1", "begin/0", "member/2",
            "node/2", "key/2", "letter/2", "count/1", "why/2", "opens/2", "due/1", "luck/3", "type/1", "read/0",
            "drift/1", "undo/0", "seed/1", "image/0", "restore/0", "got/5", "film/4", "sheet/3", "drop/1", "item/4",
            "copy/5"};
        TreeSet<String> due = new TreeSet<>(java.util.List.of(face));
        TreeSet<String> names = new TreeSet<>();
        for (String one : face) names.add(one.substring(0, one.indexOf('/')));
        for (Method method : KeyTrees.class.getDeclaredMethods()) {
            if (Modifier.isPrivate(method.getModifiers())) {
                DUE.isTrue(method + " has a name of its own", !names.contains(method.getName()));
                continue;
            }
            DUE.isTrue(method + " is public", Modifier.isPublic(method.getModifiers()));
            DUE.isTrue(method + " is no static one", !Modifier.isStatic(method.getModifiers()));
            DUE.isTrue(method + " answers an int", method.getReturnType() == int.class);
            DUE.isTrue(method + " is told", due.remove(method.getName() + "/" + method.getParameterCount()));
        }
        DUE.isTrue("all are there but " + due, due.isEmpty());
    }

    /** What stands ahead of the calls, and the calls behind it, in the document's order. */
    private static void headings(String text) {
        String[] parts = {
            "// ---- 1 comings and leavings ", "come", "leave", "batch", "late", "lose", "mend", "begin", "member",
            "node", "key", "letter", "count",
            "// ---- 2 what is opened ", "why", "opens", "due", "luck",
            "// ---- 3 what is done ", "type", "read", "drift", "undo", "seed", "image", "restore",
            "// ---- sheets 0 .. 3: nothing (at first), or a row of a LANE: 0 bytes, 1 shorts, 2 ints, 3 longs "
                + "(all with a sign), of 0 to 24 items.", "got", "film", "sheet", "drop", "item", "copy"};
        int behind = 0;
        for (String part : parts) {
            String words = part.startsWith("//") ? part : "public int " + part + "(";
            int place = text.indexOf(words, behind);
            DUE.isTrue("in its place: " + words, place >= 0);
            behind = Math.max(behind, place);
        }
    }
}
