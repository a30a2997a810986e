import java.lang.reflect.Constructor;
import java.lang.reflect.Field;
import java.lang.reflect.Method;
import java.lang.reflect.Modifier;
import java.util.HashSet;
import java.util.Set;

/** The face is the document's and nothing else (LANGUAGE.md, rule 1). */
public final class FaceTest {
    private static final String FACE = "feed valley fault count singer row able days fall catches"
        + " release exchange undo moved spare keys ransom peace silent duet luck codes slips hear"
        + " flat forget game wars cast transposed evening standIns falls voices lacking widen"
        + " bargain casts holds aimed held lost gone rows image restore";

    public static void main(String[] args) {
        Check check = new Check("FaceTest");
        Set<String> face = new HashSet<>(Set.of(FACE.split(" ")));
        check.due("methods of the document", 46, face.size());
        Set<String> found = new HashSet<>();
        for (Method m : ValleyMass.class.getDeclaredMethods()) {
            boolean isPublic = Modifier.isPublic(m.getModifiers());
            check.due(m + " is of the face", isPublic, face.contains(m.getName()));
            check.due(m + " is public or private", true,
                isPublic || Modifier.isPrivate(m.getModifiers()));
            if (isPublic) {
                check.due(m + " stands once", true, found.add(m.getName()));
            }
        }
        check.due("public methods", face.size(), found.size());
        for (Field f : ValleyMass.class.getDeclaredFields()) {
            boolean isPublic = Modifier.isPublic(f.getModifiers());
            check.due(f + " is the constant", isPublic, f.getName().equals("NONE"));
            check.due(f + " is public or private", true,
                isPublic || Modifier.isPrivate(f.getModifiers()));
        }
        for (Constructor<?> c : ValleyMass.class.getDeclaredConstructors()) {
            check.due(c + " has no arguments", 0, c.getParameterCount());
        }
        for (Class<?> inside : ValleyMass.class.getDeclaredClasses()) {
            check.due(inside + " is static", true, Modifier.isStatic(inside.getModifiers()));
            for (Method m : inside.getDeclaredMethods()) {
                check.due(m + " bears a public name", false, face.contains(m.getName()));
            }
        }
        check.due("the class is final", true, Modifier.isFinal(ValleyMass.class.getModifiers()));
        check.due("NONE", -1, ValleyMass.NONE);
        check.end();
    }
}
