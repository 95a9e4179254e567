import java.lang.reflect.Constructor;
import java.lang.reflect.Field;
import java.lang.reflect.Method;
import java.lang.reflect.Modifier;
import java.util.Set;
import java.util.TreeSet;

/** The public face: what the document has, and nothing else. */
public final class FaceTest {
    public static void main(String[] args) {
        Check check = new Check();
        check.due("NONE", MarkInlines.NONE, -1);
        check.due("public final", Modifier.toString(MarkInlines.class.getModifiers()), "public final");
        Set<String> open = new TreeSet<>();
        for (Method m : MarkInlines.class.getDeclaredMethods()) {
            if (!Modifier.isPrivate(m.getModifiers())) {
                open.add(m.toString().replace("MarkInlines.", "").replace("java.lang.", ""));
            }
        }
        for (Field f : MarkInlines.class.getDeclaredFields()) {
            if (!Modifier.isPrivate(f.getModifiers())) {
                open.add(f.toString());
            }
        }
        for (Constructor<?> c : MarkInlines.class.getDeclaredConstructors()) {
            if (!Modifier.isPrivate(c.getModifiers())) {
                open.add(c.toString());
            }
        }
        Set<String> face = new TreeSet<>(Set.of(
                "public static final int MarkInlines.NONE",
                "public MarkInlines()",
                "public void feed(int,int,int,int,int)",
                "public int end(int)",
                "public void wipe()",
                "public int define() throws IllegalArgumentException,IllegalStateException",
                "public void drop()",
                "public int read() throws IllegalArgumentException",
                "public int fault(int)",
                "public int node(int,int)",
                "public int letter(int,boolean,int)",
                "public int plain(int) throws IndexOutOfBoundsException",
                "public int write() throws IllegalStateException",
                "public int output(int)",
                "public int about(int)"));
        check.due("the face", open.toString(), face.toString());
        check.end();
    }
}
