import java.lang.reflect.InvocationTargetException;
import java.lang.reflect.Method;
import java.util.Arrays;
import java.util.Comparator;
import java.util.Random;
import java.util.Set;

/** Any call with any arguments in any state throws what its face names, or nothing; what throws changes nothing. */
public final class StrangeCallsTest {
    private static final int[] STRANGE = {0, 1, 2, 3, 4, 5, 6, 8, 12, 13, 14, 15, 30, 31, 60, 61, 99,
        100, 700, 701, 999, 1000000000, 1000000001, Integer.MAX_VALUE, Integer.MIN_VALUE, -1, -2, -3};
    private static final Check CHECK = new Check("StrangeCallsTest");

    public static void main(String[] args) throws Exception {
        // In an order of their own, so that every run makes the same calls.
        Method[] methods = ValleyMass.class.getMethods();
        Arrays.sort(methods, Comparator.comparing(Method::getName));
        for (int seed = 0; seed < 60; seed++) {
            Random r = new Random(seed);
            ValleyMass x = new ValleyMass();
            if (seed % 4 != 0) {
                Check.tell(x, SlowModel.make(r, 14).text);
            }
            for (int i = 0; i < 512; i++) {
                Method m = methods[r.nextInt(methods.length)];
                if (m.getDeclaringClass() == ValleyMass.class) {
                    call(r, x, m);
                }
            }
        }
        longestRules();
        CHECK.end();
    }

    private static void call(Random r, ValleyMass x, Method m) throws Exception {
        Object[] given = new Object[m.getParameterCount()];
        for (int i = 0; i < given.length; i++) {
            given[i] = r.nextInt(3) == 0 ? STRANGE[r.nextInt(STRANGE.length)] : r.nextInt(4);
        }
        long before = sumUp(x);
        try {
            m.invoke(x, given);
            CHECK.due("a call", 0, 0);
        } catch (InvocationTargetException e) {
            Class<?> thrown = e.getCause().getClass();
            CHECK.due(m + " may throw " + thrown, true,
                Set.of((Object[]) m.getExceptionTypes()).contains(thrown));
            CHECK.due(m + " changed something", before, sumUp(x));
        }
    }

    private static long sumUp(ValleyMass x) {
        long sum = x.fault();
        for (int what = 0; what <= 14; what++) {
            sum = sum * 31 + x.count(what);
        }
        return sum;
    }

    /** Rules that fill the whole text, as deep and as wide as they may be. */
    private static void longestRules() {
        String one = "1 or 1 and 1<1+1*";
        String deep = one + "(" + one + "(" + one + "(" + one + "(" + one + "(" + one + "1)))))";
        ValleyMass x = Check.told("truce north " + deep + ";truce south " + deep + ";");
        CHECK.due("a deep rule", true, x.holds(0));
        String wide = "truce north 1" + "+1".repeat(343) + ";";
        CHECK.due("how long it is", 700, wide.length());
        ValleyMass y = Check.told(wide);
        CHECK.due("a wide rule", true, y.holds(0));
        CHECK.due("a wide rule holds", 99, y.held(0, 99));
        String sum = "truce north 344=1" + "+1".repeat(340) + "+3;";
        CHECK.due("a wide sum", true, Check.told(sum).holds(0));
    }
}
