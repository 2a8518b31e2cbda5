import java.lang.reflect.Constructor;
import java.lang.reflect.Field;
import java.lang.reflect.Method;
import java.lang.reflect.Modifier;
import java.util.Set;
import java.util.TreeSet;

/** The public face is the document's, and nothing else of the class can be seen from outside. */
public final class FaceTest {
    private static final Set<String> FACE = Set.of(
            "public static final int BAD", "public static final int LONG", "public static final int MANY",
            "public GridlockDesk(int)",
            "public boolean fund(int,long)", "public boolean credit(int,long)",
            "public boolean limit(int,int,long)", "public boolean totalLimit(int,long)",
            "public int pay(int,int,long,int,int)", "public boolean cancel(int)", "public boolean urge(int,int)",
            "public int resolve()", "public int tick(int)", "public int close()", "public long balance(int)",
            "public long position(int,int)", "public int waiting(int)", "public int queued(int,int)",
            "public int state(int)", "public long turnover()", "public int now()");

    public static void main(String[] args) {
        Due due = new Due("FaceTest");
        Set<String> seen = new TreeSet<>();
        Set<String> publicNames = new TreeSet<>();
        for (Field field : GridlockDesk.class.getDeclaredFields()) {
            if (!Modifier.isPrivate(field.getModifiers())) {
                seen.add(plain(field.toString()));
            }
            if (Modifier.isStatic(field.getModifiers())) {
                due.holds(field.getName() + " is final", Modifier.isFinal(field.getModifiers()));
            }
        }
        for (Constructor<?> constructor : GridlockDesk.class.getDeclaredConstructors()) {
            seen.add(plain(constructor.toString()));
        }
        for (Method method : GridlockDesk.class.getDeclaredMethods()) {
            if (!Modifier.isPrivate(method.getModifiers())) {
                seen.add(plain(method.toString()));
                publicNames.add(method.getName());
            }
        }
        for (Method method : GridlockDesk.class.getDeclaredMethods()) {
            if (Modifier.isPrivate(method.getModifiers())) {
                due.holds(method.getName() + " is no public name", !publicNames.contains(method.getName()));
            }
        }
        for (String member : FACE) {
            due.holds("there is " + member, seen.contains(member));
        }
        for (String member : seen) {
            due.holds("the document has " + member, FACE.contains(member));
        }
        int modifiers = GridlockDesk.class.getModifiers();
        due.holds("the class is public and final", Modifier.isPublic(modifiers) && Modifier.isFinal(modifiers));
        due.is("BAD", GridlockDesk.BAD, -1);
        due.is("LONG", GridlockDesk.LONG, -2);
        due.is("MANY", GridlockDesk.MANY, -3);
        due.end();
    }

    private static String plain(String member) {
        return member.replace("GridlockDesk.", "");
    }
}
