import java.util.NoSuchElementException;
import java.util.concurrent.Callable;

/** What all tests of the project use: feeding a text, and comparing answers. */
final class Check {
    static final String NO_SUCH = "NoSuchElementException";
    static final String ILLEGAL = "IllegalArgumentException";

    private final String name;
    private int asked;
    private int wrong;

    Check(String name) {
        this.name = name;
    }

    void due(String what, long want, long got) {
        asked++;
        if (got != want) {
            wrong++;
            System.out.println(name + ": " + what + " answered " + got + ", due is " + want);
        }
    }

    void due(String what, boolean want, boolean got) {
        due(what, want ? 1 : 0, got ? 1 : 0);
    }

    void due(String what, String want, String got) {
        asked++;
        if (!got.equals(want)) {
            wrong++;
            System.out.println(name + ": " + what + " answered " + got + ", due is " + want);
        }
    }

    void dueThrow(String what, String want, Callable<?> call) {
        asked++;
        String got = "nothing";
        try {
            call.call();
        } catch (NoSuchElementException e) {
            got = NO_SUCH;
        } catch (IllegalArgumentException e) {
            got = ILLEGAL;
        } catch (Exception e) {
            got = e.getClass().getName();
        }
        if (!got.equals(want)) {
            wrong++;
            System.out.println(name + ": " + what + " threw " + got + ", due is " + want);
        }
    }

    void end() {
        System.out.println(name + ": " + asked + " answers, " + wrong + " wrong");
        if (wrong != 0 || asked == 0) {
            System.exit(1);
        }
    }

    /** Feeds a text, blanks behind it, and answers how long the tape is. */
    static int feed(ValleyMass x, String text) {
        int many = 0;
        for (int at = 0; at < text.length(); at += 20) {
            int[] five = new int[5];
            for (int i = 0; i < 20; i++) {
                int sign = at + i < text.length() ? text.charAt(at + i) & 255 : ' ';
                five[i / 4] = five[i / 4] << 8 | sign;
            }
            many = x.feed(five[0], five[1], five[2], five[3], five[4]);
        }
        return many;
    }

    static int tell(ValleyMass x, String text) {
        feed(x, text);
        return x.valley(text.length());
    }

    static ValleyMass told(String text) {
        ValleyMass x = new ValleyMass();
        int fault = tell(x, text);
        if (fault != 0) {
            throw new IllegalStateException("fault " + fault + " at " + x.fault() + " in " + text);
        }
        return x;
    }

    /** All that a valley tells of itself, to see that a call changed nothing. */
    static String allOf(ValleyMass x) {
        StringBuilder all = new StringBuilder("fault " + x.fault() + " texts " + x.count(12));
        for (int what = 0; what <= 14; what++) {
            all.append(what == 12 ? "" : " " + x.count(what));
        }
        for (int singer = 0; singer < x.count(0); singer++) {
            for (int what = 0; what < 6; what++) {
                all.append(what == 0 ? "; " : " ").append(x.singer(singer, what));
            }
        }
        for (int row = 0; row < x.count(1) * 4; row++) {
            int notes = x.row(row / 4, row % 4, -2);
            for (int i = -2; i < notes; i++) {
                all.append(i == -2 ? "; " : " ").append(x.row(row / 4, row % 4, i));
            }
        }
        for (int i = 0; i < 2; i++) {
            all.append(x.holds(i) ? "; holds " : "; fires ").append(x.aimed(i));
        }
        return all.append("; ").append(x.flat(0)).append(' ').append(x.flat(1)).toString();
    }
}
