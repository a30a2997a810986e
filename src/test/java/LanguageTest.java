import java.lang.reflect.Field;
import java.lang.reflect.Method;
import java.lang.reflect.Modifier;
import java.nio.charset.StandardCharsets;
import java.nio.file.Files;
import java.nio.file.Path;
import java.util.ArrayList;
import java.util.List;
import java.util.regex.Matcher;
import java.util.regex.Pattern;

/** What of LANGUAGE.md can be seen in the class's text and by reflection (FaceTest has its rule 1). */
public final class LanguageTest {
    private static final Check C = new Check("LanguageTest");
    private static final Path SOURCE = Path.of("src/main/java/ValleyMass.java");
    private static final int METHOD_LINES = 60;
    private static final int PARAMETERS = 7;
    private static final int CLASSES = 12;
    private static final int FIELDS = 20;

    public static void main(String[] args) throws Exception {
        String text = Files.readString(SOURCE, StandardCharsets.UTF_8);
        for (int i = 0; i < text.length(); i++) {
            if (text.charAt(i) < 1 || text.charAt(i) > 127) {
                C.due("4: a sign at " + i, "1 to 127", "" + (int) text.charAt(i));
            }
        }
        String code = text.replaceAll("(?s)/\\*.*?\\*/", " ").replaceAll("//[^\n]*", " ")
            .replaceAll("\"[^\"\n]*\"", "\"\"");
        nothingOf(code);
        onlyTheLibraryNamed(code);
        methodsAreShort(text);
        List<Class<?>> classes = new ArrayList<>(List.of(ValleyMass.class.getDeclaredClasses()));
        classes.add(ValleyMass.class);
        C.due("11: so many classes at most", true, classes.size() <= CLASSES);
        for (Class<?> each : classes) {
            fieldsOf(each);
            for (Method m : each.getDeclaredMethods()) {
                C.due("11: parameters of " + m, true, m.getParameterCount() <= PARAMETERS);
            }
        }
        C.end();
    }

    private static void nothingOf(String code) {
        String[] words = {"package", "try", "catch", "finally", "synchronized", "assert", "throws Exception",
            "native", "volatile", "transient", "strictfp", "protected", "getMessage", "printStackTrace",
            "hashCode", "toString", "Random", "System.currentTimeMillis", "System.nanoTime", "System.out",
            "Thread", "File", "HashMap", "Map", "Set", "Object", "var", "double", "float"};
        for (String word : words) {
            boolean found = Pattern.compile("\\b" + Pattern.quote(word) + "\\b").matcher(code).find();
            C.due("the word " + word, false, found);
        }
        C.due("2: a lambda", false, code.contains("->"));
        C.due("2: a method reference", false, code.contains("::"));
        C.due("4: a name that ends in Exact", false, Pattern.compile("\\w+Exact\\b").matcher(code).find());
        C.due("5: a static block", false, Pattern.compile("\\bstatic\\s*\\{").matcher(code).find());
    }

    private static void onlyTheLibraryNamed(String code) {
        Matcher imports = Pattern.compile("\\bimport\\s+([\\w.*]+)").matcher(code);
        while (imports.find()) {
            C.due("4: an import", "java.util.NoSuchElementException", imports.group(1));
        }
        Matcher thrown = Pattern.compile("\\bthrow\\b([^;(]*)").matcher(code);
        while (thrown.find()) {
            String what = thrown.group(1).trim();
            C.due("6: " + what, true, what.equals("new NoSuchElementException")
                || what.equals("new IllegalArgumentException"));
        }
        Matcher calls = Pattern.compile("\\b(Math|Integer|Long|System|Arrays)\\.(\\w+)").matcher(code);
        while (calls.find()) {
            String call = calls.group();
            C.due("4: " + call, true, call.matches("Math\\.(min|max|abs)|Integer\\.bitCount|System\\.arraycopy"));
        }
    }

    /** A method begins at an indent of 4 or 8 and ends with a brace at the same one. */
    private static void methodsAreShort(String text) {
        String[] lines = text.split("\n");
        for (int i = 0; i < lines.length; i++) {
            String line = lines[i];
            String indent = line.substring(0, line.length() - line.stripLeading().length());
            boolean begins = line.contains("(") && !line.contains(";") && !line.contains("=")
                && line.stripLeading().matches("(public|private|static|int|long|boolean|void) .*");
            if (begins && (indent.length() == 4 || indent.length() == 8)) {
                int end = i;
                while (end < lines.length && !lines[end].equals(indent + "}")) {
                    end++;
                }
                C.due("11: a short method at line " + (i + 1), true, end - i < METHOD_LINES);
            }
        }
    }

    private static void fieldsOf(Class<?> each) {
        int many = 0;
        for (Field f : each.getDeclaredFields()) {
            if (Modifier.isStatic(f.getModifiers())) {
                C.due("5: a static field is final, " + f, true, Modifier.isFinal(f.getModifiers()));
            } else {
                many++;
            }
        }
        C.due("11: fields of " + each, true, many <= FIELDS);
    }
}
