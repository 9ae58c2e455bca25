import java.lang.reflect.Constructor;
import java.lang.reflect.Field;
import java.lang.reflect.Method;
import java.lang.reflect.Modifier;
import java.util.Arrays;
import java.util.List;
import java.util.TreeSet;

/** The public face is the document's, and nothing else of the class can be seen. */
public final class FaceTest {
    private static final String OUT = " throws java.lang.ArrayIndexOutOfBoundsException";
    private static final List<String> FACE = List.of(
        "public static final int SheetRows.NONE",
        "public SheetRows(int,int)",
        "public void SheetRows.put(int,int,byte)" + OUT,
        "public int SheetRows.threshold()",
        "public int SheetRows.parts()",
        "public int SheetRows.part(int,int)",
        "public int SheetRows.skew()",
        "public int SheetRows.turn(int)",
        "public int SheetRows.pack()",
        "public byte SheetRows.octet(int)" + OUT,
        "public void SheetRows.add(byte)",
        "public int SheetRows.unpack()",
        "public int SheetRows.side(int)",
        "public boolean SheetRows.inverted()",
        "public int SheetRows.grey(int,int)" + OUT);

    public static void main(String[] args) {
        Check.due("the class is public and final", SheetRows.class.getModifiers(), Modifier.PUBLIC | Modifier.FINAL);
        Check.due("NONE", SheetRows.NONE, -1);
        TreeSet<String> seen = new TreeSet<>();
        for (Field field : SheetRows.class.getDeclaredFields()) {
            lookAtStatic(field);
            see(seen, field.getModifiers(), field.toString());
        }
        for (Constructor<?> constructor : SheetRows.class.getDeclaredConstructors()) {
            see(seen, constructor.getModifiers(), constructor.toString());
        }
        for (Method method : SheetRows.class.getDeclaredMethods()) {
            see(seen, method.getModifiers(), method.toString());
        }
        for (String member : FACE) {
            Check.due("there is " + member, seen.remove(member), true);
        }
        Check.due("members beside the face " + seen, seen.size(), 0);
        Check.end("FaceTest");
    }

    private static void see(TreeSet<String> seen, int modifiers, String member) {
        if (!Modifier.isPrivate(modifiers)) {
            seen.add(member);
        }
    }

    /** LANGUAGE.md, rule 5: static fields are constants of these kinds. */
    private static void lookAtStatic(Field field) {
        if (Modifier.isStatic(field.getModifiers())) {
            List<Class<?>> kinds = Arrays.asList(int.class, long.class, boolean.class, char.class, String.class,
                int[].class, long[].class, char[].class, byte[].class);
            Check.due(field + " is final", Modifier.isFinal(field.getModifiers()), true);
            Check.due(field + " is of a kind that is allowed", kinds.contains(field.getType()), true);
        }
    }
}
