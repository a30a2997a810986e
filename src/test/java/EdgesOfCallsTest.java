import java.util.LinkedHashMap;
import java.util.Map;

/**
 * Numbers that name nothing, or are too small or too large: which exception each call throws for
 * them, which one comes ahead of the other, and that a call that throws changes nothing.
 */
public final class EdgesOfCallsTest {
    private static final Check C = new Check("EdgesOfCallsTest");
    private static final String NO_SUCH = Check.NO_SUCH;
    private static final String ILLEGAL = Check.ILLEGAL;
    private static final int LEAST = Integer.MIN_VALUE;
    private static final int MOST = Integer.MAX_VALUE;

    private static final String SOME = "north bass 0 9 5;south bass 0 9 3;neutral bass 0 9 4;"
        + "piece;bass 1 4;piece;soprano 1 1;alto 1 2;tenor 1 3;bass 1 4 5;";
    private static final String MANY = "north bass 0 9 1;".repeat(7) + "south bass 0 9 2;".repeat(7)
        + "piece;bass 1 4;".repeat(5);

    /** A call of which one number is asked for and all others are fine. */
    private interface Call {
        Object with(ValleyMass x, int n);
    }

    public static void main(String[] args) {
        for (String text : new String[] {"", SOME, MANY}) {
            noSuchSinger(text);
            noSuchPiece(text);
        }
        noSuchPart();
        noSuchSide();
        noSuchWhat();
        noSuchNote();
        noSuchRow();
        tooFewAndTooMany();
        whatComesAhead();
        the512thCall();
        C.end();
    }

    private static void dueThrow(String what, String want, ValleyMass x, Call call, int n) {
        String before = Check.allOf(x);
        C.dueThrow(what + " of " + n, want, () -> call.with(x, n));
        C.due(what + " of " + n + " changes nothing", before, Check.allOf(x));
    }

    private static void dueNothing(String what, ValleyMass x, Call call, int n) {
        C.dueThrow(what + " of " + n, "nothing", () -> call.with(x, n));
    }

    /** All numbers from the first to the last are taken, the ones beside them are not. */
    private static void between(String what, String want, ValleyMass x, Call call, int first, int last) {
        for (int n : new int[] {first - 1, first - 2, last + 1, last + 2, first - 32, last + 32, LEAST, MOST}) {
            dueThrow(what, want, x, call, n);
        }
        for (int n = first; n <= last && n < first + 100; n++) {
            dueNothing(what, x, call, n);
        }
        if (last >= first) {
            dueNothing(what, x, call, last);
        }
    }

    // ---- singers, pieces, parts, sides

    /** "NoSuchElementException: no such SINGER (as everywhere)". */
    private static void noSuchSinger(String text) {
        Map<String, Call> calls = new LinkedHashMap<>();
        calls.put("6: singer", (x, n) -> x.singer(n, 5));
        calls.put("10: fall", (x, n) -> x.fall(n));
        calls.put("11: catches", (x, n) -> x.catches(n));
        calls.put("12: release", (x, n) -> x.release(n));
        calls.put("33: standIns", (x, n) -> x.standIns(n));
        calls.put("45: rows", (x, n) -> x.rows(n));
        if (!text.isEmpty()) {
            calls.put("13: exchange, north", (x, n) -> x.exchange(n, 1));
            calls.put("13: exchange, south", (x, n) -> x.exchange(0, n));
        }
        calls.put("13: exchange, both", (x, n) -> x.exchange(n, n));
        for (Map.Entry<String, Call> call : calls.entrySet()) {
            ValleyMass x = Check.told(text);
            between(call.getKey(), NO_SUCH, x, call.getValue(), 0, x.count(0) - 1);
        }
    }

    /** "NoSuchElementException: no such PIECE (as everywhere)". */
    private static void noSuchPiece(String text) {
        Map<String, Call> calls = new LinkedHashMap<>();
        calls.put("7: row", (x, n) -> x.row(n, 3, -1));
        calls.put("8: able", (x, n) -> x.able(n, 3));
        calls.put("15: moved", (x, n) -> x.moved(n));
        calls.put("16: spare", (x, n) -> x.spare(n));
        calls.put("18: ransom", (x, n) -> x.ransom(n));
        calls.put("22: luck", (x, n) -> x.luck(n, 1, 0));
        calls.put("23: codes", (x, n) -> x.codes(n, 1));
        calls.put("24: slips", (x, n) -> x.slips(n, 1));
        calls.put("25: hear", (x, n) -> x.hear(n, 3, 0, 4));
        calls.put("30: cast", (x, n) -> x.cast(n, 0));
        calls.put("31: transposed", (x, n) -> x.transposed(n));
        calls.put("36: lacking", (x, n) -> x.lacking(n, 3));
        calls.put("37: widen", (x, n) -> x.widen(n, 0));
        calls.put("39: casts", (x, n) -> x.casts(n));
        calls.put("43: lost", (x, n) -> x.lost(n));
        for (Map.Entry<String, Call> call : calls.entrySet()) {
            ValleyMass x = Check.told(text);
            between(call.getKey(), NO_SUCH, x, call.getValue(), 0, x.count(1) - 1);
        }
    }

    /** "PART (0 to 3)". */
    private static void noSuchPart() {
        ValleyMass x = Check.told(SOME);
        between("7: part", NO_SUCH, x, (y, n) -> y.row(1, n, -1), 0, 3);
        between("7: part, how many notes", NO_SUCH, x, (y, n) -> y.row(0, n, -2), 0, 3);
        between("8: part", NO_SUCH, x, (y, n) -> y.able(0, n), 0, 3);
        between("25: part", NO_SUCH, x, (y, n) -> y.hear(1, n, 0, 1), 0, 3);
        between("35: part", NO_SUCH, x, (y, n) -> y.voices(2, n), 0, 3);
        between("36: part", NO_SUCH, x, (y, n) -> y.lacking(1, n), 0, 3);
    }

    /** "no such SIDE (0 to 2)"; "A SIDE (0, 1) .. another one". */
    private static void noSuchSide() {
        for (String text : new String[] {"", SOME}) {
            ValleyMass x = Check.told(text);
            between("35: side", NO_SUCH, x, (y, n) -> y.voices(n, 3), 0, 2);
            between("44: side", NO_SUCH, x, (y, n) -> y.gone(n), 0, 2);
            between("40: side", NO_SUCH, x, (y, n) -> y.holds(n), 0, 1);
            between("41: side", NO_SUCH, x, (y, n) -> y.aimed(n), 0, 1);
            between("42: side", NO_SUCH, x, (y, n) -> y.held(n, 9), 0, 1);
        }
    }

    /** "NoSuchElementException: another what." */
    private static void noSuchWhat() {
        ValleyMass x = Check.told(SOME);
        between("5: what", NO_SUCH, x, (y, n) -> y.count(n), 0, 14);
        between("6: what", NO_SUCH, x, (y, n) -> y.singer(0, n), 0, 5);
        between("22: what", NO_SUCH, x, (y, n) -> y.luck(0, 0, n), 0, 1);
        between("26: what", NO_SUCH, x, (y, n) -> y.flat(n), 0, 2);
        between("28: what", NO_SUCH, x, (y, n) -> y.game(0, n), 0, 1);
        between("29: what", NO_SUCH, x, (y, n) -> y.wars(1, 1, n), 0, 2);
        between("30: what", NO_SUCH, x, (y, n) -> y.cast(0, n), 0, 1);
        between("37: what", NO_SUCH, x, (y, n) -> y.widen(0, n), 0, 1);
        // Also where it wouldn't be looked at, as nothing can be sung.
        between("22: what, can't be sung", NO_SUCH, x, (y, n) -> y.luck(1, 0, n), 0, 1);
        between("30: what, can't be sung", NO_SUCH, x, (y, n) -> y.cast(1, n), 0, 1);
        between("37: what, can't be sung", NO_SUCH, x, (y, n) -> y.widen(1, n), 0, 1);
    }

    /** "the i-th one (0 on). NoSuchElementException: no such .. NOTE". */
    private static void noSuchNote() {
        ValleyMass x = Check.told(SOME);
        between("7: note", NO_SUCH, x, (y, n) -> y.row(1, 3, n), -2, 1);
        between("7: note", NO_SUCH, x, (y, n) -> y.row(0, 3, n), -2, 0);
        between("7: note of no row", NO_SUCH, x, (y, n) -> y.row(0, 0, n), -2, -1);
        C.due("7: NEED of a row that isn't there", 0, x.row(0, 0, -1));
        C.due("8: who can sing a row that isn't there", 0, x.able(0, 0));
    }

    /** "NoSuchElementException: also no such PART, ROW." */
    private static void noSuchRow() {
        ValleyMass x = Check.told(SOME + "piece;");
        for (int part = 0; part < 3; part++) {
            dueThrow("36: no row", NO_SUCH, x, (y, n) -> y.lacking(0, n), part);
        }
        for (int part = 0; part < 4; part++) {
            dueThrow("36: no rows at all", NO_SUCH, x, (y, n) -> y.lacking(2, n), part);
        }
    }

    // ---- amounts

    /** "IllegalArgumentException": how many fall, slip, ways, gain, days. */
    private static void tooFewAndTooMany() {
        ValleyMass x = Check.told(SOME);
        between("22: so many fall", ILLEGAL, x, (y, n) -> y.luck(0, n, 0), 0, 14);
        between("22: so many fall", ILLEGAL, x, (y, n) -> y.luck(1, n, 1), 0, 14);
        between("23: slips", ILLEGAL, x, (y, n) -> y.codes(0, n), 0, 12);
        between("24: ways", ILLEGAL, x, (y, n) -> y.slips(0, n), 0, 1000000000);
        between("28: so much", ILLEGAL, x, (y, n) -> y.game(n, 0), 0, 99);
        between("29: n", ILLEGAL, x, (y, n) -> y.wars(1, n, 0), 0, 60);
        between("34: days", ILLEGAL, x, (y, n) -> y.falls(n), 0, 99);
        between("42: days", ILLEGAL, x, (y, n) -> y.held(1, n), 0, 99);
        ValleyMass nobody = new ValleyMass();
        between("28: so much, nobody", ILLEGAL, nobody, (y, n) -> y.game(n, 1), 0, 99);
        between("29: n, nobody", ILLEGAL, nobody, (y, n) -> y.wars(1, n, 2), 0, 60);
        between("34: days, nobody", ILLEGAL, nobody, (y, n) -> y.falls(n), 0, 99);
        between("42: days, nobody", ILLEGAL, nobody, (y, n) -> y.held(0, n), 0, 99);
    }

    /** "IllegalArgumentException (behind that)", "(behind NoSuchElementException)", "(ahead)". */
    private static void whatComesAhead() {
        ValleyMass x = Check.told(SOME);
        for (int wrong : new int[] {-1, LEAST, MOST, 1000000001}) {
            dueThrow("22: the piece is ahead", NO_SUCH, x, (y, n) -> y.luck(2, n, 0), wrong);
            dueThrow("22: what is ahead", NO_SUCH, x, (y, n) -> y.luck(0, n, 2), wrong);
            dueThrow("23: the piece is ahead", NO_SUCH, x, (y, n) -> y.codes(2, n), wrong);
            dueThrow("24: the piece is ahead", NO_SUCH, x, (y, n) -> y.slips(-1, n), wrong);
            dueThrow("25: the piece is ahead", NO_SUCH, x, (y, n) -> y.hear(2, 3, n, n), wrong);
            dueThrow("25: the part is ahead", NO_SUCH, x, (y, n) -> y.hear(0, 4, n, n), wrong);
            dueThrow("28: what is ahead", NO_SUCH, x, (y, n) -> y.game(n, 2), wrong);
            dueThrow("29: what is ahead", NO_SUCH, x, (y, n) -> y.wars(1, n, 3), wrong);
            dueThrow("42: the side is ahead", NO_SUCH, x, (y, n) -> y.held(2, n), wrong);
        }
        C.due("25: nothing is refused by it", 0, x.count(14));
        for (int i = 0; i < 8; i++) {
            x.hear(0, 3, 0, 4);
        }
        dueThrow("25: ahead of the ninth", NO_SUCH, x, (y, n) -> y.hear(n, 3, 0, 4), 2);
        dueThrow("25: ahead of the ninth", NO_SUCH, x, (y, n) -> y.hear(0, n, 0, 4), 4);
    }

    /** "An object is used for at most 512 calls": the last of them is as good as the first. */
    private static void the512thCall() {
        ValleyMass x = new ValleyMass();
        C.due("call 1", 20, Check.feed(x, "north bass 0 9 1;"));
        C.due("call 2", 0, x.valley(17));
        for (int call = 3; call <= 510; call += 2) {
            C.due("call " + call, true, x.catches(0));
            C.due("call " + (call + 1), true, x.release(0));
        }
        C.due("call 511", 39, x.undo());
        C.due("call 512", 1, x.count(6));
    }
}
