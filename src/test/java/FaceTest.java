import java.lang.reflect.Constructor;
import java.lang.reflect.Field;
import java.lang.reflect.Method;
import java.lang.reflect.Modifier;
import java.util.ArrayList;
import java.util.Collections;
import java.util.List;

/** The public face: what the document lists, and no other member that can be seen from outside. */
final class FaceTest {
    private static final Checks CHECKS = new Checks();

    private static final List<String> FACE = List.of(
        "public boolean BlockScreen.locked()",
        "public boolean BlockScreen.modified(int)",
        "public byte BlockScreen.octet(int) throws java.lang.ArrayIndexOutOfBoundsException",
        "public int BlockScreen.attribute(int,int)",
        "public int BlockScreen.cell(int) throws java.lang.ArrayIndexOutOfBoundsException",
        "public int BlockScreen.count(int)",
        "public int BlockScreen.cursor()",
        "public int BlockScreen.field(int,int)",
        "public int BlockScreen.inbound()",
        "public int BlockScreen.key(int)",
        "public int BlockScreen.out(byte)",
        "public int BlockScreen.sign(int,int)",
        "public int BlockScreen.type(int)");

    public static void main(String[] args) {
        CHECKS.due("the class is public and final",
            BlockScreen.class.getModifiers() & (Modifier.PUBLIC | Modifier.FINAL), Modifier.PUBLIC | Modifier.FINAL);
        CHECKS.due("NONE", BlockScreen.NONE, -1);
        methods();
        constructors();
        fields();
        nestedClasses();
        CHECKS.finish();
    }

    private static void methods() {
        List<String> seen = new ArrayList<>();
        for (Method method : BlockScreen.class.getDeclaredMethods()) {
            if (!method.isSynthetic() && !Modifier.isPrivate(method.getModifiers())) {
                seen.add(method.toString());
            }
        }
        Collections.sort(seen);
        CHECKS.due("the methods " + seen + " are the document's", seen.equals(FACE), true);
    }

    private static void constructors() {
        Constructor<?>[] all = BlockScreen.class.getDeclaredConstructors();
        CHECKS.due("constructors", all.length, 1);
        CHECKS.due("the constructor", all[0].toString().equals("public BlockScreen(int,int)"), true);
    }

    private static void fields() {
        for (Field field : BlockScreen.class.getDeclaredFields()) {
            boolean isPrivate = Modifier.isPrivate(field.getModifiers());
            CHECKS.due(field + " is private", isPrivate, !field.getName().equals("NONE"));
        }
    }

    private static void nestedClasses() {
        for (Class<?> nested : BlockScreen.class.getDeclaredClasses()) {
            CHECKS.due(nested + " is static", Modifier.isStatic(nested.getModifiers()), true);
            CHECKS.due(nested + " is not public", Modifier.isPublic(nested.getModifiers()), false);
        }
    }
}
