import java.lang.reflect.Constructor;
import java.lang.reflect.Field;
import java.lang.reflect.Method;
import java.lang.reflect.Modifier;
import java.util.TreeSet;

/** The public face is the document's and no more. */
public final class FaceTest {
    private static final String[] FACE = {
        "public static final int PaperKinds.NONE",
        "public PaperKinds()",
        "public int PaperKinds.page()",
        "public int PaperKinds.box(int,int,int,int)",
        "public boolean PaperKinds.tell(int,int)",
        "public boolean PaperKinds.weights(int,int,int,int,int)",
        "public boolean PaperKinds.bounds(int,int,int)",
        "public int PaperKinds.kind(int,int)",
        "public int PaperKinds.spot(int,int,int)",
        "public int PaperKinds.lay(int,int,int)",
        "public int PaperKinds.moved(int,int,boolean)",
        "public int PaperKinds.read(int,int,int)",
        "public int PaperKinds.sorted(int)",
        "public int PaperKinds.told(int)",
        "public int PaperKinds.look()",
        "public int PaperKinds.heaps()",
        "public int PaperKinds.heap(int)",
        "public int PaperKinds.versions(int,int,int)",
        "public int PaperKinds.touch(int,int)",
        "public int PaperKinds.about(int)",
    };

    public static void main(String[] args) {
        Checks checks = new Checks("FaceTest");
        TreeSet<String> found = new TreeSet<>();
        TreeSet<String> open = new TreeSet<>();
        TreeSet<String> hidden = new TreeSet<>();
        for (Field field : PaperKinds.class.getDeclaredFields()) {
            if (!Modifier.isPrivate(field.getModifiers())) {
                found.add(field.toString());
            }
        }
        for (Constructor<?> constructor : PaperKinds.class.getDeclaredConstructors()) {
            found.add(constructor.toString());
        }
        for (Method method : PaperKinds.class.getDeclaredMethods()) {
            if (Modifier.isPrivate(method.getModifiers())) {
                hidden.add(method.getName());
            } else {
                found.add(method.toString());
                open.add(method.getName());
            }
        }
        for (String member : FACE) {
            checks.due(member + " is there", found.remove(member), true);
        }
        checks.due("other members " + found, found.size(), 0);
        hidden.retainAll(open);
        checks.due("private methods of a public name " + hidden, hidden.size(), 0);
        checks.due("public and final", PaperKinds.class.getModifiers(),
                Modifier.PUBLIC | Modifier.FINAL);
        for (Class<?> inside : PaperKinds.class.getDeclaredClasses()) {
            checks.due(inside + " is static", Modifier.isStatic(inside.getModifiers()), true);
        }
        checks.end();
    }
}
