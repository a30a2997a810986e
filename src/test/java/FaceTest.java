import java.lang.reflect.Constructor;
import java.lang.reflect.Field;
import java.lang.reflect.Method;
import java.lang.reflect.Modifier;
import java.util.HashSet;
import java.util.Set;
import java.util.StringJoiner;

/** The face is the document's and nothing else (LANGUAGE.md, rule 1). */
public final class FaceTest {
    private static final String[] FACE = {
        "int feed(int a, int b, int c, int d, int e)",
        "int valley(int n) throws IllegalArgumentException",
        "int fault()",
        "int count(int what) throws NoSuchElementException",
        "int singer(int singer, int what) throws NoSuchElementException",
        "int row(int piece, int part, int i) throws NoSuchElementException",
        "int able(int piece, int part) throws NoSuchElementException",
        "int days(int many)",
        "boolean fall(int singer) throws NoSuchElementException",
        "boolean catches(int singer) throws NoSuchElementException",
        "boolean release(int singer) throws NoSuchElementException",
        "boolean exchange(int north, int south) throws NoSuchElementException",
        "int undo()",
        "int moved(int piece) throws NoSuchElementException",
        "int spare(int piece) throws NoSuchElementException",
        "int keys()",
        "int ransom(int piece) throws NoSuchElementException",
        "int peace()",
        "int silent()",
        "int duet()",
        "int luck(int piece, int fall, int what) throws NoSuchElementException, IllegalArgumentException",
        "long codes(int piece, int slips) throws NoSuchElementException, IllegalArgumentException",
        "int slips(int piece, int many) throws NoSuchElementException, IllegalArgumentException",
        "int hear(int piece, int part, int i, int note) throws NoSuchElementException",
        "int flat(int what) throws NoSuchElementException",
        "void forget()",
        "int game(int much, int what) throws NoSuchElementException, IllegalArgumentException",
        "int wars(int seed, int n, int what) throws NoSuchElementException, IllegalArgumentException",
        "int cast(int piece, int what) throws NoSuchElementException",
        "int transposed(int piece) throws NoSuchElementException",
        "int evening()",
        "int standIns(int singer) throws NoSuchElementException",
        "int falls(int days) throws IllegalArgumentException",
        "int voices(int side, int part) throws NoSuchElementException",
        "int lacking(int piece, int part) throws NoSuchElementException",
        "int widen(int piece, int what) throws NoSuchElementException",
        "int bargain()",
        "long casts(int piece) throws NoSuchElementException",
        "boolean holds(int side) throws NoSuchElementException",
        "int aimed(int side) throws NoSuchElementException",
        "int held(int side, int days) throws NoSuchElementException, IllegalArgumentException",
        "int lost(int piece) throws NoSuchElementException",
        "int gone(int side) throws NoSuchElementException",
        "int rows(int singer) throws NoSuchElementException",
        "void image()",
        "boolean restore()"
    };

    public static void main(String[] args) {
        Check check = new Check("FaceTest");
        Set<String> face = new HashSet<>();
        Set<String> told = new HashSet<>();
        for (String line : FACE) {
            face.add(line.substring(line.indexOf(' ') + 1, line.indexOf('(')));
            told.add(withoutNames(line));
        }
        check.due("methods of the document", 46, face.size());
        Set<String> found = new HashSet<>();
        for (Method m : ValleyMass.class.getDeclaredMethods()) {
            boolean isPublic = Modifier.isPublic(m.getModifiers());
            check.due(m + " is of the face", isPublic, face.contains(m.getName()));
            check.due(m + " is public or private", true,
                isPublic || Modifier.isPrivate(m.getModifiers()));
            if (isPublic) {
                check.due(m + " stands once", true, found.add(m.getName()));
                check.due(asTold(m) + " is as the document tells it", true, told.contains(asTold(m)));
            }
        }
        check.due("public methods", face.size(), found.size());
        for (Field f : ValleyMass.class.getDeclaredFields()) {
            boolean isPublic = Modifier.isPublic(f.getModifiers());
            check.due(f + " is the constant", isPublic, f.getName().equals("NONE"));
            check.due(f + " is public or private", true,
                isPublic || Modifier.isPrivate(f.getModifiers()));
        }
        for (Constructor<?> c : ValleyMass.class.getDeclaredConstructors()) {
            check.due(c + " has no arguments", 0, c.getParameterCount());
            check.due(c + " is public", true, Modifier.isPublic(c.getModifiers()));
        }
        for (Class<?> inside : ValleyMass.class.getDeclaredClasses()) {
            check.due(inside + " is static", true, Modifier.isStatic(inside.getModifiers()));
            for (Method m : inside.getDeclaredMethods()) {
                check.due(m + " bears a public name", false, face.contains(m.getName()));
            }
        }
        check.due("the class is final", true, Modifier.isFinal(ValleyMass.class.getModifiers()));
        check.due("NONE", -1, ValleyMass.NONE);
        check.end();
    }

    private static String withoutNames(String line) {
        return line.replaceAll("(int|long|boolean) \\w+([,)])", "$1$2");
    }

    private static String asTold(Method m) {
        StringJoiner given = new StringJoiner(", ", "(", ")");
        for (Class<?> each : m.getParameterTypes()) {
            given.add(each.getSimpleName());
        }
        StringJoiner thrown = new StringJoiner(", ", " throws ", "").setEmptyValue("");
        for (Class<?> each : m.getExceptionTypes()) {
            thrown.add(each.getSimpleName());
        }
        return m.getReturnType().getSimpleName() + " " + m.getName() + given + thrown;
    }
}
