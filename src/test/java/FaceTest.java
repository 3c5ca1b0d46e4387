import java.lang.reflect.Constructor;
import java.lang.reflect.Field;
import java.lang.reflect.Method;
import java.lang.reflect.Modifier;
import java.util.Arrays;
import java.util.Set;
import java.util.TreeSet;

/** The class shows the document's face and nothing beside it. */
public final class FaceTest {
    private static final Set<String> FACE = new TreeSet<>(Arrays.asList(
        "public static final int TripleOrders.NONE",
        "public TripleOrders(int)",
        "public int TripleOrders.add(int,int,int,int)",
        "public int TripleOrders.remove(int,int,int,int)",
        "public int TripleOrders.range(int,int,int,int)",
        "public int TripleOrders.at(int,int)",
        "public int TripleOrders.seek(int)",
        "public int TripleOrders.seconds(int,int,int)",
        "public long TripleOrders.sum(int,int,int)",
        "public int TripleOrders.lead(int,int,int)",
        "public int TripleOrders.leap(int)",
        "public int TripleOrders.found(int)",
        "public int TripleOrders.cut(int)",
        "public int TripleOrders.pages(int)",
        "public int TripleOrders.page(int,int,int)",
        "public int TripleOrders.mark(int,int)",
        "public int TripleOrders.count(int)",
        "public void TripleOrders.clear()"));

    public static void main(String[] args) {
        Set<String> seen = new TreeSet<>();
        for (Constructor<?> c : TripleOrders.class.getDeclaredConstructors()) {
            note(seen, c.getModifiers(), c.isSynthetic(), c.toString());
        }
        for (Method m : TripleOrders.class.getDeclaredMethods()) {
            note(seen, m.getModifiers(), m.isSynthetic(), m.toString());
        }
        for (Field f : TripleOrders.class.getDeclaredFields()) {
            note(seen, f.getModifiers(), f.isSynthetic(), f.toString());
        }
        boolean isFinal = Modifier.isFinal(TripleOrders.class.getModifiers());
        if (!isFinal || !seen.equals(FACE)) {
            System.out.println("final: " + isFinal + "\nthe face is " + seen + "\ndue is " + FACE);
            System.exit(1);
        }
        System.out.println("the face is as due");
    }

    private static void note(Set<String> seen, int modifiers, boolean synthetic, String text) {
        if (!synthetic && !Modifier.isPrivate(modifiers)) {
            seen.add(text);
        }
    }
}
