import java.lang.reflect.Field;
import java.lang.reflect.Method;
import java.lang.reflect.Modifier;
import java.nio.charset.StandardCharsets;
import java.nio.file.Files;
import java.nio.file.Path;
import java.util.ArrayList;
import java.util.List;
import java.util.Map;
import java.util.Set;
import java.util.TreeMap;
import java.util.TreeSet;
import java.util.regex.Matcher;
import java.util.regex.Pattern;

/** What of LANGUAGE.md can be seen in the class's text and by reflection (FaceTest has its rule 1). */
public final class LanguageTest {
    private static final Check C = new Check("LanguageTest");
    private static final Path SOURCE = Path.of("src/main/java/ValleyMass.java");
    private static final int METHOD_LINES = 60;
    private static final int PARAMETERS = 7;
    private static final int CLASSES = 12;
    private static final int FIELDS = 20;
    private static final int DEEP = 8;

    public static void main(String[] args) throws Exception {
        String text = Files.readString(SOURCE, StandardCharsets.UTF_8);
        for (int i = 0; i < text.length(); i++) {
            if (text.charAt(i) < 1 || text.charAt(i) > 127) {
                C.due("4: a sign at " + i, "1 to 127", "" + (int) text.charAt(i));
            }
        }
        String code = text.replaceAll("(?s)/\\*.*?\\*/", " ").replaceAll("//[^\n]*", " ")
            .replaceAll("\"[^\"\n]*\"", "\"\"");
        nothingOf(code);
        onlyTheLibraryNamed(code);
        nothingIsMadeByCalls(code);
        methodsAreShort(text);
        callsGoEightDeep(code);
        List<Class<?>> classes = new ArrayList<>(List.of(ValleyMass.class.getDeclaredClasses()));
        classes.add(ValleyMass.class);
        C.due("11: so many classes at most", true, classes.size() <= CLASSES);
        for (Class<?> each : classes) {
            fieldsOf(each);
            for (Method m : each.getDeclaredMethods()) {
                C.due("11: parameters of " + m, true, m.getParameterCount() <= PARAMETERS);
            }
        }
        C.end();
    }

    private static void nothingOf(String code) {
        String[] words = {"package", "try", "catch", "finally", "synchronized", "assert", "throws Exception",
            "native", "volatile", "transient", "strictfp", "protected", "getMessage", "printStackTrace",
            "hashCode", "toString", "Random", "System.currentTimeMillis", "System.nanoTime", "System.out",
            "Thread", "File", "HashMap", "Map", "Set", "Object", "var", "double", "float"};
        for (String word : words) {
            boolean found = Pattern.compile("\\b" + Pattern.quote(word) + "\\b").matcher(code).find();
            C.due("the word " + word, false, found);
        }
        C.due("2: a lambda", false, code.contains("->"));
        C.due("2: a method reference", false, code.contains("::"));
        C.due("4: a name that ends in Exact", false, Pattern.compile("\\w+Exact\\b").matcher(code).find());
        C.due("5: a static block", false, Pattern.compile("\\bstatic\\s*\\{").matcher(code).find());
    }

    private static void onlyTheLibraryNamed(String code) {
        Matcher imports = Pattern.compile("\\bimport\\s+([\\w.*]+)").matcher(code);
        while (imports.find()) {
            C.due("4: an import", "java.util.NoSuchElementException", imports.group(1));
        }
        Matcher thrown = Pattern.compile("\\bthrow\\b([^;(]*)").matcher(code);
        while (thrown.find()) {
            String what = thrown.group(1).trim();
            C.due("6: " + what, true, what.equals("new NoSuchElementException")
                || what.equals("new IllegalArgumentException"));
        }
        Matcher calls = Pattern.compile("\\b(Math|Integer|Long|System|Arrays)\\.(\\w+)").matcher(code);
        while (calls.find()) {
            String call = calls.group();
            C.due("4: " + call, true, call.matches("Math\\.(min|max|abs)|Integer\\.bitCount|System\\.arraycopy"));
        }
    }

    /** 12: the class makes its rows with the object; else only what it throws is made. */
    private static void nothingIsMadeByCalls(String code) {
        for (String line : code.split("\n")) {
            if (Pattern.compile("\\bnew\\b").matcher(line).find()) {
                boolean field = line.matches(" {4}private \\w.* = new .*| {8}(private )?final \\w.* = new .*");
                C.due("12: made with the object or thrown, " + line.strip(), true,
                    field || line.contains("throw new "));
            }
        }
        C.due("10: texts joined by +", false, Pattern.compile("\"\\s*\\+|\\+\\s*\"").matcher(code).find());
    }

    private static final Pattern CLASS = Pattern.compile("^ {4}(?:private )?static final class (\\w+) .*");
    private static final Pattern METHOD = Pattern.compile(
        "^(?: {4}| {8})(?:public |private |static )*(?:int|long|boolean|void) (\\w+)\\(.*");
    private static final Pattern CALL = Pattern.compile("(?:(\\w+)\\.)?\\b(\\w+)\\(");

    /** 11: who calls whom, by the text; those that call one another count as one. */
    private static void callsGoEightDeep(String code) {
        Map<String, String> bodies = new TreeMap<>();
        String inside = "ValleyMass";
        String method = "";
        for (String line : code.split("\n")) {
            Matcher begins = CLASS.matcher(line);
            Matcher named = METHOD.matcher(line);
            if (begins.matches()) {
                inside = begins.group(1);
                method = "";
            } else if (named.matches() && !line.contains(";")) {
                method = inside + "." + named.group(1);
                bodies.put(method, "");
            } else if (!method.isEmpty()) {
                bodies.merge(method, line + "\n", String::concat);
            }
        }
        C.due("11: methods found in the text", true, bodies.size() > 100);
        Map<String, Set<String>> calls = new TreeMap<>();
        for (Map.Entry<String, String> each : bodies.entrySet()) {
            calls.put(each.getKey(), calledIn(each.getKey(), each.getValue(), bodies.keySet()));
        }
        int deepest = 0;
        for (String each : calls.keySet()) {
            deepest = Math.max(deepest, depthFrom(each, calls, new TreeMap<>()));
        }
        C.due("11: calls go eight deep at most, not " + deepest, true, deepest > 3 && deepest <= DEEP);
    }

    /** A call on an object may be of any class that has the name, but its own one. */
    private static Set<String> calledIn(String method, String body, Set<String> all) {
        Set<String> found = new TreeSet<>();
        String own = method.substring(0, method.indexOf('.'));
        Matcher call = CALL.matcher(body);
        while (call.find()) {
            String on = call.group(1);
            String name = call.group(2);
            for (String each : all) {
                boolean ofOwn = each.startsWith(own + ".");
                boolean fits = on == null ? ofOwn : all.contains(on + "." + name) ? each.startsWith(on + ".") : !ofOwn;
                if (fits && each.endsWith("." + name)) {
                    found.add(each);
                }
            }
        }
        return found;
    }

    private static Set<String> reachedFrom(String method, Map<String, Set<String>> calls) {
        Set<String> reached = new TreeSet<>(calls.get(method));
        List<String> open = new ArrayList<>(reached);
        while (!open.isEmpty()) {
            for (String next : calls.get(open.remove(open.size() - 1))) {
                if (reached.add(next)) {
                    open.add(next);
                }
            }
        }
        return reached;
    }

    private static int depthFrom(String method, Map<String, Set<String>> calls, Map<String, Integer> known) {
        Integer before = known.get(method);
        if (before != null) {
            return before;
        }
        Set<String> circle = new TreeSet<>(Set.of(method));
        for (String each : reachedFrom(method, calls)) {
            if (reachedFrom(each, calls).contains(method)) {
                circle.add(each);
            }
        }
        int deepest = 0;
        for (String each : circle) {
            for (String next : calls.get(each)) {
                if (!circle.contains(next)) {
                    deepest = Math.max(deepest, depthFrom(next, calls, known));
                }
            }
        }
        known.put(method, deepest + 1);
        return deepest + 1;
    }

    /** A method begins at an indent of 4 or 8 and ends with a brace at the same one. */
    private static void methodsAreShort(String text) {
        String[] lines = text.split("\n");
        for (int i = 0; i < lines.length; i++) {
            String line = lines[i];
            String indent = line.substring(0, line.length() - line.stripLeading().length());
            boolean begins = line.contains("(") && !line.contains(";") && !line.contains("=")
                && line.stripLeading().matches("(public|private|static|int|long|boolean|void) .*");
            if (begins && (indent.length() == 4 || indent.length() == 8)) {
                int end = i;
                while (end < lines.length && !lines[end].equals(indent + "}")) {
                    end++;
                }
                C.due("11: a short method at line " + (i + 1), true, end - i < METHOD_LINES);
            }
        }
    }

    private static void fieldsOf(Class<?> each) {
        int many = 0;
        for (Field f : each.getDeclaredFields()) {
            if (Modifier.isStatic(f.getModifiers())) {
                C.due("5: a static field is final, " + f, true, Modifier.isFinal(f.getModifiers()));
                C.due("5: a constant is of a type that is named, " + f, true,
                    Set.of("int", "long", "boolean", "char", "String").contains(f.getType().getSimpleName()));
            } else {
                many++;
            }
        }
        C.due("11: fields of " + each, true, many <= FIELDS);
    }
}
