import java.lang.reflect.Method;
import java.lang.reflect.Modifier;
import java.nio.charset.StandardCharsets;
import java.nio.file.Files;
import java.nio.file.Path;

/** README.md says how to use the class: its example answers as it says, and no call is left out. */
public final class ReadmeTest {
    private static final Check C = new Check("ReadmeTest");

    public static void main(String[] args) throws Exception {
        String page = Files.readString(Path.of("README.md"), StandardCharsets.UTF_8);
        int from = page.indexOf("| calls |");
        String table = page.substring(Math.max(0, from), page.indexOf("## How to run"));
        for (Method m : ValleyMass.class.getDeclaredMethods()) {
            if (Modifier.isPublic(m.getModifiers())) {
                String[] named = table.split("`" + m.getName() + "\\(", -1);
                C.due("the table names " + m.getName(), 2, named.length);
                String given = named[named.length - 1].split("\\)", 2)[0];
                int many = given.isEmpty() ? 0 : given.split(",").length;
                C.due("what is given to " + m.getName(), m.getParameterCount(), many);
            }
        }
        example(page);
        C.end();
    }

    /** The lines of the page as they stand there, each with the answer that it is said to have. */
    private static void example(String page) {
        String[] lines = {
            "x.feed(0x6e6f7274, 0x68206261, 0x73732030, 0x20392031, 0x3b202020);",
            "x.feed(0x70696563, 0x653b6261, 0x73732031, 0x20353b20, 0x20202020);",
            "int fault = x.valley(40);      // 0: it is told; else fault() says where the text is wrong",
            "int pieces = x.count(8);       // 1: piece 0 can be sung",
            "x.days(3);                     // three days go by",
            "x.undo();                      // and are undone"
        };
        for (String line : lines) {
            C.due("the page has " + line, true, page.contains(line));
        }
        ValleyMass x = new ValleyMass();
        C.due("feed", 20, x.feed(0x6e6f7274, 0x68206261, 0x73732030, 0x20392031, 0x3b202020));
        C.due("feed", 40, x.feed(0x70696563, 0x653b6261, 0x73732031, 0x20353b20, 0x20202020));
        C.due("valley", 0, x.valley(40));
        C.due("fault", ValleyMass.NONE, x.fault());
        C.due("pieces", 1, x.count(8));
        C.due("days", 3, x.days(3));
        C.due("undo", 0, x.undo());
        C.due("the day", 0, x.count(3));
    }
}
