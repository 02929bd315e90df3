import java.lang.reflect.Constructor;
import java.lang.reflect.Field;
import java.lang.reflect.Method;
import java.lang.reflect.Modifier;
import java.util.Set;
import java.util.TreeSet;

/** The class has the document's face and no other member that is seen from outside. */
public final class Face {
    public static void main(String[] args) {
        Set<String> due = new TreeSet<>(Set.of(
            "public static final int NONE",
            "public ProcRing(int)",
            "public boolean first()",
            "public int pick(int)",
            "public int fork(int)",
            "public int exit(int,int)",
            "public int await(int)",
            "public int status()",
            "public int block(int,int)",
            "public int sleep(int,int)",
            "public int wake(int)",
            "public int rest(int)",
            "public int tick()",
            "public boolean kill(int)",
            "public int about(int,int)",
            "public int count(int)"));
        Set<String> found = seenFromOutside();
        Check check = new Check();
        check.due("the face " + found + " is as due", found.equals(due), true);
        int modifiers = ProcRing.class.getModifiers();
        check.due("public final", Modifier.isPublic(modifiers) && Modifier.isFinal(modifiers), true);
        check.due("NONE", ProcRing.NONE, -1);
        check.due("private methods with a public one's name", sharedNames(), 0);
        check.end();
    }

    private static Set<String> seenFromOutside() {
        Set<String> found = new TreeSet<>();
        for (Field field : ProcRing.class.getDeclaredFields()) {
            if (!Modifier.isPrivate(field.getModifiers())) {
                found.add(field.toGenericString().replace("ProcRing.", ""));
            }
        }
        for (Constructor<?> constructor : ProcRing.class.getDeclaredConstructors()) {
            if (!Modifier.isPrivate(constructor.getModifiers())) {
                found.add(constructor.toGenericString());
            }
        }
        for (Method method : ProcRing.class.getDeclaredMethods()) {
            if (!Modifier.isPrivate(method.getModifiers())) {
                found.add(method.toGenericString().replace("ProcRing.", ""));
            }
        }
        return found;
    }

    private static int sharedNames() {
        int shared = 0;
        for (Method hidden : ProcRing.class.getDeclaredMethods()) {
            for (Method seen : ProcRing.class.getMethods()) {
                if (Modifier.isPrivate(hidden.getModifiers()) && hidden.getName().equals(seen.getName())) {
                    shared++;
                }
            }
        }
        return shared;
    }
}
