/** Each promise by itself: ordinary inputs, the edges that the document names, wrong inputs. */
public final class PromisesTest {
    private static final Check C = new Check("PromisesTest");
    private static final String NO_SUCH = Check.NO_SUCH;
    private static final String ILLEGAL = Check.ILLEGAL;

    /** Tenors 0, 1 (north), basses 2, 3 (south), an alto (neutral); two pieces that share the basses. */
    private static final String CHOIR = "north tenor 10 24 5;north tenor 12 20 3;south bass 0 12 7;"
        + "south bass 4 16 2;neutral alto 14 30 4;piece;tenor 2 14 18;bass 1 4 10;piece;alto 1 15 28;"
        + "bass 2 6;every 3;";
    /** Three of the north and three of the south, basses all; a piece for two and one for four. */
    private static final String BASSES = "north bass 0 20 9;south bass 0 20 8;north bass 0 20 7;"
        + "south bass 5 20 6;north bass 0 20 7;south bass 0 20 1;piece;bass 2 10;piece;bass 4 3 10;";
    private static final String PEACE = "truce north 1;truce south 1;";

    public static void main(String[] args) {
        p01to05();
        p06to08();
        p09days();
        p10to13acts();
        p14undo();
        p15moved();
        p16to17();
        p18ransom();
        p19to20();
        p21to32together();
        p22luck();
        p23to24codes();
        p25to27heard();
        p28game();
        p29wars();
        p30cast();
        p31transposed();
        p33to36();
        p37widen();
        p38bargain();
        p39casts();
        p40to42rules();
        p43to45();
        p46to47image();
        C.end();
    }

    private static void p01to05() {
        ValleyMass x = new ValleyMass();
        for (int what = 0; what <= 14; what++) {
            C.due("1: count " + what, what == 2 ? 4 : 0, x.count(what));
        }
        C.due("1: fault", -1, x.fault());
        C.dueThrow("5: count -1", NO_SUCH, () -> x.count(-1));
        C.dueThrow("5: count 15", NO_SUCH, () -> x.count(15));
        C.dueThrow("1: nobody", NO_SUCH, () -> x.singer(0, 0));
        C.dueThrow("1: no piece", NO_SUCH, () -> x.able(0, 0));

        C.due("2: feed", 20, Check.feed(x, "every 7;"));
        C.due("2: feed", 40, x.feed(0x61626364, -1, 0, 1, Integer.MIN_VALUE));
        C.dueThrow("3: valley 41", ILLEGAL, () -> x.valley(41));
        C.dueThrow("3: valley -1", ILLEGAL, () -> x.valley(-1));
        C.due("3: the tape stays", 40, x.count(11));
        C.due("3: no fault is counted", 0, x.count(12));
        C.due("3: valley 8", 0, x.valley(8));
        C.due("3: the tape is empty", 0, x.count(11));
        C.due("3: every", 7, x.count(2));
        for (int i = 1; i <= 35; i++) {
            C.due("2: feed", 20 * i, x.feed(0x20202020, 0x20202020, 0x20202020, 0x20202020, 0x0a0a0a0a));
        }
        C.due("2: feed beyond 700", -1, x.feed(0x41414141, 0, 0, 0, 0));
        C.due("2: none come", 700, x.count(11));
        C.due("3: blanks", 0, x.valley(700));
        C.due("3: all anew", 4, x.count(2));
        C.due("2: bytes, highest first", 20, x.feed(0x65766572, 0x7920333b, 0xffff8000, 0, 0));
        C.due("3: the ninth byte is none", 1, x.valley(9));
        C.due("4: fault", 8, x.fault());
        C.due("3: an empty text", 0, x.valley(0));
        C.due("4: no fault", -1, x.fault());

        ValleyMass y = Check.told(CHOIR);
        y.catches(1);
        y.hear(0, 2, 0, 14);
        y.image();
        C.due("3: a fault", 5, Check.tell(y, "every 2;every 2;"));
        C.due("4: fault", 8, y.fault());
        C.dueThrow("3: valley 1", ILLEGAL, () -> y.valley(1));
        C.due("4: fault stays", 8, y.fault());
        C.due("3: singers stay", 5, y.count(0));
        C.due("3: every stays", 3, y.count(2));
        C.due("3: acts stay", 1, y.count(9));
        C.due("3: heard stays", 1, y.count(10));
        C.due("3: the image stays", true, y.restore());
        y.catches(1);
        y.hear(0, 0, 0, 14);
        int[] due = {5, 2, 3, 0, 0, 29, 2, 0, 2, 1, 1, 0, 1, 1, 1};
        for (int what = 0; what <= 14; what++) {
            C.due("5: count " + what, due[what], y.count(what));
        }
        C.due("3: valley", 0, Check.tell(y, "north bass 0 1 1;"));
        int[] anew = {1, 0, 4, 0, 0, 1, 0, 0, 0, 0, 0, 0, 1, 1, 1};
        for (int what = 0; what <= 14; what++) {
            C.due("3: anew, count " + what, anew[what], y.count(what));
        }
        C.due("3: no image", false, y.restore());
        C.due("3: no acts", -1, y.undo());
        y.fall(0);
        C.due("5: fallen", 1, y.count(7));
    }

    private static void p06to08() {
        ValleyMass x = Check.told(CHOIR);
        int[] due = {1, 3, 4, 16, 2, 0};
        for (int what = 0; what <= 5; what++) {
            C.due("6: singer 3, " + what, due[what], x.singer(3, what));
        }
        C.due("6: neutral", 2, x.singer(4, 0));
        C.due("6: alto", 1, x.singer(4, 1));
        x.catches(3);
        C.due("6: caught", 1, x.singer(3, 5));
        x.fall(2);
        C.due("6: fallen", 2, x.singer(2, 5));
        C.dueThrow("6: what -1", NO_SUCH, () -> x.singer(3, -1));
        C.dueThrow("6: what 6", NO_SUCH, () -> x.singer(3, 6));
        C.dueThrow("6: singer 5", NO_SUCH, () -> x.singer(5, 0));
        C.dueThrow("6: singer -1", NO_SUCH, () -> x.singer(-1, 0));
        C.dueThrow("6: singer 32", NO_SUCH, () -> x.singer(32, 0));

        C.due("7: need", 2, x.row(0, 2, -1));
        C.due("7: notes", 2, x.row(0, 2, -2));
        C.due("7: note 0", 14, x.row(0, 2, 0));
        C.due("7: note 1", 18, x.row(0, 2, 1));
        C.due("7: no row", 0, x.row(0, 1, -1));
        C.due("7: notes of no row", 0, x.row(0, 1, -2));
        C.dueThrow("7: note 2", NO_SUCH, () -> x.row(0, 2, 2));
        C.dueThrow("7: note -3", NO_SUCH, () -> x.row(0, 2, -3));
        C.dueThrow("7: note of no row", NO_SUCH, () -> x.row(0, 1, 0));
        C.dueThrow("7: piece 2", NO_SUCH, () -> x.row(2, 0, -1));
        C.dueThrow("7: piece -1", NO_SUCH, () -> x.row(-1, 0, -1));
        C.dueThrow("7: part 4", NO_SUCH, () -> x.row(0, 4, -1));
        C.dueThrow("7: part -1", NO_SUCH, () -> x.row(1, -1, -1));

        ValleyMass y = Check.told(CHOIR);
        C.due("8: able", 3, y.able(0, 2));
        C.due("8: able", 12, y.able(1, 3));
        C.due("8: no row", 0, y.able(1, 2));
        y.catches(0);
        C.due("8: able", 2, y.able(0, 2));
        C.dueThrow("8: piece", NO_SUCH, () -> y.able(2, 0));
        C.dueThrow("8: part", NO_SUCH, () -> y.able(0, 4));
        C.dueThrow("8: part", NO_SUCH, () -> y.able(0, -1));
    }

    private static void p09days() {
        ValleyMass x = Check.told(CHOIR);
        C.due("9: days 0", -1, x.days(0));
        C.due("9: days -5", -1, x.days(-5));
        C.due("9: days 31", -1, x.days(31));
        C.due("9: days, most", -1, x.days(Integer.MAX_VALUE));
        C.due("9: refused", 4, x.count(13));
        C.due("9: no act", 0, x.count(9));
        C.due("9: the evening is sung", 1, x.days(1));
        C.due("9: nobody fell", 0, x.count(7));
        C.due("9: sung", 1, x.count(4));
        C.due("9: both fire", 2, x.days(1));
        C.due("9: the most skilled fell", 5, x.count(7));
        C.due("9: one act for many days", 12, x.days(10));
        C.due("9: acts", 3, x.count(9));
        C.due("9: all but the neutral", 16, x.count(5));

        ValleyMass y = new ValleyMass();
        for (int i = 1; i <= 33; i++) {
            C.due("9: days", 30 * i, y.days(30));
        }
        C.due("9: above 999", -1, y.days(10));
        C.due("9: 999", 999, y.days(9));
        C.due("9: above 999", -1, y.days(1));
        C.due("9: refused", 2, y.count(13));

        // Both fire at once: the one who is felled still fells the other; of like ones the least.
        ValleyMass z = Check.told("north bass 0 1 4;north bass 0 1 4;south bass 0 1 4;");
        z.days(1);
        C.due("9: both at once", 5, z.count(7));
        z.days(1);
        C.due("9: a side without free men fires still", 7, z.count(7));
        z.days(1);
        C.due("9: nobody is there to fire at", 7, z.count(7));
    }

    private static void p10to13acts() {
        ValleyMass x = Check.told(CHOIR);
        C.due("10: fall", true, x.fall(0));
        C.due("10: again", false, x.fall(0));
        C.due("11: catches", true, x.catches(1));
        C.due("10: a caught one", false, x.fall(1));
        C.due("11: a caught one", false, x.catches(1));
        C.due("11: a fallen one", false, x.catches(0));
        C.due("12: a fallen one", false, x.release(0));
        C.due("12: a free one", false, x.release(2));
        C.due("12: a caught one", true, x.release(1));
        C.due("12: again", false, x.release(1));
        C.due("refused", 7, x.count(13));
        C.due("acts", 3, x.count(9));
        C.due("11: a neutral one", true, x.catches(4));
        C.due("12: a neutral one", true, x.release(4));
        C.dueThrow("10", NO_SUCH, () -> x.fall(5));
        C.dueThrow("10", NO_SUCH, () -> x.fall(-1));
        C.dueThrow("11", NO_SUCH, () -> x.catches(5));
        C.dueThrow("12", NO_SUCH, () -> x.release(5));
        C.dueThrow("13", NO_SUCH, () -> x.exchange(5, 2));
        C.dueThrow("13", NO_SUCH, () -> x.exchange(1, 5));
        C.dueThrow("13", NO_SUCH, () -> x.exchange(-1, 2));
        C.due("thrown, not refused", 7, x.count(13));

        ValleyMass y = Check.told(CHOIR);
        C.due("13: free ones", false, y.exchange(1, 2));
        y.catches(1);
        C.due("13: one is free", false, y.exchange(1, 2));
        y.catches(2);
        y.catches(4);
        y.catches(0);
        C.due("13: the other order", false, y.exchange(2, 1));
        C.due("13: two of the north", false, y.exchange(0, 1));
        C.due("13: one and himself", false, y.exchange(1, 1));
        C.due("13: a neutral one", false, y.exchange(1, 4));
        C.due("13: exchange", true, y.exchange(1, 2));
        C.due("13: caught", 17, y.count(6));
        C.due("13: free", 14, y.count(5));
        C.due("13: refused", 6, y.count(13));
        C.due("13: acts", 5, y.count(9));
    }

    private static void p14undo() {
        ValleyMass x = Check.told(CHOIR);
        C.due("14: none", -1, x.undo());
        C.due("14: not refused", 0, x.count(13));
        x.days(4);
        x.catches(4);
        x.release(4);
        x.fall(4);
        C.due("14: fallen", 31, x.count(7));
        C.due("14: undo", 3, x.undo());
        C.due("14: undo", 2, x.undo());
        C.due("14: caught again", 16, x.count(6));
        C.due("14: undo", 1, x.undo());
        C.due("14: free again", 16, x.count(5));
        C.due("14: undo", 0, x.undo());
        C.due("14: days undone", 0, x.count(3));
        C.due("14: sung undone", 0, x.count(4));
        C.due("14: free", 31, x.count(5));

        // 43 acts, of which the first three can't be undone: days 1, 1 and a catch.
        ValleyMass y = Check.told("north bass 0 1 1;" + PEACE);
        y.days(1);
        y.days(1);
        for (int i = 0; i < 41; i++) {
            C.due("14: act " + i, true, i % 2 == 0 ? y.catches(0) : y.release(0));
        }
        C.due("14: at most 40", 40, y.count(9));
        for (int i = 39; i >= 0; i--) {
            C.due("14: undo", i, y.undo());
        }
        C.due("14: none", -1, y.undo());
        C.due("14: caught", 1, y.count(6));
        C.due("14: the day", 2, y.count(3));
    }

    private static void p15moved() {
        ValleyMass x = Check.told("north tenor 10 20 1;north tenor 12 22 1;north bass 10 10 1;"
            + "piece;tenor 1 8 22 15;piece;tenor 2 8 24 32;piece;tenor 2 10;piece;tenor 1 10 22;"
            + "piece;");
        C.due("15: 8 up for the one, or for the other", 1, x.moved(0));
        C.due("15: 8, 24, 32 into 12 to 20", 3, x.moved(1));
        C.due("15: 10 up is too high", -1, x.moved(2));
        C.due("15: one of two by the one, or by the other", 1, x.moved(3));
        C.due("15: no rows", -1, x.moved(4));
        x.catches(1);
        C.due("15: the one alone: 8 up, 22 down", 2, x.moved(0));
        C.due("15: too few", -1, x.moved(1));
        ValleyMass y = Check.told("north tenor 30 40 1;piece;tenor 1 6;piece;tenor 1 30 40;"
            + "bass 1 10;piece;tenor 1 18 28 52;".replace("52", "41"));
        C.due("15: once alone", -1, y.moved(0));
        C.due("15: nobody for a row", -1, y.moved(1));
        C.due("15: 18 and 28 up; 41 neither way", -1, y.moved(2));
        ValleyMass z = Check.told(CHOIR);
        C.due("15: as it is", 0, z.moved(0));
        C.dueThrow("15", NO_SUCH, () -> z.moved(2));
        C.dueThrow("15", NO_SUCH, () -> z.moved(-1));
    }

    private static void p16to17() {
        ValleyMass x = Check.told(BASSES + "piece;");
        C.due("16: six for two", 4, x.spare(0));
        C.due("16: five for four", 1, x.spare(1));
        C.due("16: no rows", -1, x.spare(2));
        C.due("17: none alone", 0, x.keys());
        x.catches(0);
        C.due("16: four for four", 0, x.spare(1));
        C.due("17: all four", 0b110110, x.keys());
        x.catches(1);
        C.due("16: three for four", -1, x.spare(1));
        C.due("16: four for two", 2, x.spare(0));
        C.due("17: none", 0, x.keys());
        C.dueThrow("16", NO_SUCH, () -> x.spare(3));
        ValleyMass y = Check.told(CHOIR);
        C.due("16: the least of its rows", 0, y.spare(0));
        C.due("17: all", 31, y.keys());
        y.fall(4);
        C.due("17: bass 3 may be lost now, and bass 2", 3, y.keys());
    }

    private static void p18ransom() {
        ValleyMass x = Check.told(BASSES);
        C.due("18: 0, if it can", 0, x.ransom(1));
        for (int i = 0; i < 6; i++) {
            x.catches(i);
        }
        C.due("18: the least pair", 3, x.ransom(0));
        C.due("18: two pairs, without the one who can't", 0b100111, x.ransom(1));
        x.release(4);
        C.due("18: one free already", 3, x.ransom(0));
        C.due("18: two pairs for three", 15, x.ransom(1));
        x.fall(4);
        x.undo();
        x.undo();
        x.release(1);
        x.fall(1);
        x.release(5);
        x.fall(5);
        C.due("18: no two pairs are left", -1, x.ransom(1));
        C.due("18: the pair with 3", 9, x.ransom(0));
        C.dueThrow("18", NO_SUCH, () -> x.ransom(2));
        ValleyMass y = Check.told(CHOIR);
        y.catches(4);
        C.due("18: a neutral one is not exchanged", -1, y.ransom(1));
    }

    private static void p19to20() {
        ValleyMass x = Check.told(CHOIR);
        C.due("19: an evening ahead of the first shot", 1, x.peace());
        C.due("20: all have fallen by then", 3, x.silent());
        C.due("19, 20: nothing changes", 0, x.count(3));
        x.days(1);
        C.due("19: a shot at once", 0, x.peace());
        x.days(3);
        C.due("19: nobody to fire at", 99, x.peace());
        C.due("20: the next evening", 6, x.silent());

        ValleyMass y = Check.told("north bass 0 9 1;south bass 0 9 1;piece;bass 1 5;every 9;"
            + "truce north day<120;truce south 1;");
        C.due("19: of 99 days", 99, y.peace());
        C.due("20: none", -1, y.silent());
        y.days(30);
        C.due("19: day 120, an evening is none", 90, y.peace());
        C.due("20: the north sings on", -1, y.silent());
        // Behind the first 99 days, the 100th is not looked at.
        ValleyMass z = Check.told("north bass 0 9 1;south bass 0 9 1;every 9;piece;bass 2 5;"
            + "truce north day<98;truce south 1;");
        C.due("19: 98", 98, z.peace());
        C.due("20: day 99 is the hundredth", -1, z.silent());
        z.days(1);
        C.due("20: day 99 is the 99th now", 99, z.silent());
        C.due("20: without pieces", 0, new ValleyMass().silent());
    }

    private static void p21to32together() {
        ValleyMass x = Check.told(CHOIR);
        C.due("21: three basses wanted", -1, x.duet());
        C.due("32: the least", 1, x.evening());
        x.catches(0);
        C.due("32: the other", 2, x.evening());
        C.due("32: nobody", 0, new ValleyMass().evening());

        // Three basses of whom one reaches all: each couple fits, but not with him twice.
        ValleyMass y = Check.told("north bass 0 20 1;north bass 0 10 1;north bass 10 20 1;"
            + "piece;bass 1 5;piece;bass 1 2;piece;bass 1 15;piece;bass 2 10;piece;");
        C.due("21: the first couple", 1, y.duet());
        C.due("32: three at once", 7, y.evening());
        y.fall(1);
        C.due("21: 0 and 2", 2, y.duet());
        C.due("32: 0 and 2", 5, y.evening());
        y.fall(0);
        C.due("21: none", -1, y.duet());
        C.due("32: 2 alone", 4, y.evening());
        // Hall's trouble is in three pieces, though each two of them fit.
        ValleyMass z = Check.told("north bass 0 9 1;north bass 0 9 1;south alto 0 9 1;"
            + "piece;bass 1 1;piece;bass 1 2;piece;bass 1 3;piece;alto 1 3;");
        C.due("32: of three two, and the alto's", 0b1011, z.evening());
        C.due("21: 0 and 1", 1, z.duet());
    }

    private static void p22luck() {
        ValleyMass x = Check.told(BASSES + "piece;");
        C.due("22: upper", 1, x.luck(1, 0, 0));
        C.due("22: lower", 1, x.luck(1, 0, 1));
        C.due("22: any one", 1, x.luck(1, 1, 0));
        // Two of six fall: it is sung if one of them is 3, in 5 of 15 ways.
        C.due("22: upper", 1, x.luck(1, 2, 0));
        C.due("22: lower", 3, x.luck(1, 2, 1));
        C.due("22: none", 0, x.luck(1, 3, 0));
        C.due("22: none", 1, x.luck(1, 3, 1));
        C.due("22: four may", 1, x.luck(0, 4, 1));
        C.due("22: not five", 0, x.luck(0, 5, 0));
        C.due("22: more than there are", 0, x.luck(0, 14, 0));
        C.due("22: more than there are", 1, x.luck(0, 14, 1));
        C.due("22: no rows", 0, x.luck(2, 0, 0));
        C.due("22: no rows", 1, x.luck(2, 0, 1));
        ValleyMass y = Check.told(CHOIR);
        // One of five falls: 0 and 1 must not.
        C.due("22: upper", 3, y.luck(0, 1, 0));
        C.due("22: lower", 5, y.luck(0, 1, 1));
        // Two of five: neither tenor, not both basses: of {2,3,4} two but {2,3}: 2 of 10.
        C.due("22: upper", 1, y.luck(0, 2, 0));
        C.due("22: lower", 5, y.luck(0, 2, 1));
        C.dueThrow("22: piece", NO_SUCH, () -> y.luck(2, 0, 0));
        C.dueThrow("22: what", NO_SUCH, () -> y.luck(0, 0, 2));
        C.dueThrow("22: what", NO_SUCH, () -> y.luck(0, 0, -1));
        C.dueThrow("22: how many", ILLEGAL, () -> y.luck(0, 15, 0));
        C.dueThrow("22: how many", ILLEGAL, () -> y.luck(0, -1, 0));
        C.dueThrow("22: what ahead of how many", NO_SUCH, () -> y.luck(0, 15, 2));
        C.dueThrow("22: piece ahead of how many", NO_SUCH, () -> y.luck(5, 15, 0));
    }

    private static void p23to24codes() {
        String twelve = " 1 1 1 1 1 1 1 1 1 1 1 1;";
        ValleyMass x = Check.told("piece;soprano 1" + twelve + "alto 1" + twelve + "tenor 1" + twelve
            + "bass 1" + twelve + "piece;alto 1 0;piece;");
        C.due("23: none", 1, x.codes(0, 0));
        C.due("23: one of 48", 97, x.codes(0, 1));
        C.due("23: two of 48", 97 + 4 * 1128, x.codes(0, 2));
        C.due("23: twelve of 48", twelveOf48(), x.codes(0, 12));
        C.due("23: of one note, 0 too", 3, x.codes(1, 1));
        C.due("23: of one note", 3, x.codes(1, 12));
        C.due("23: of none", 1, x.codes(2, 12));
        C.dueThrow("23: 13", ILLEGAL, () -> x.codes(0, 13));
        C.dueThrow("23: -1", ILLEGAL, () -> x.codes(0, -1));
        C.dueThrow("23: piece", NO_SUCH, () -> x.codes(3, 13));
        C.due("24: 0 ways", 0, x.slips(0, 0));
        C.due("24: 1 way", 0, x.slips(0, 1));
        C.due("24: 2 ways", 1, x.slips(0, 2));
        C.due("24: 97 ways", 1, x.slips(0, 97));
        C.due("24: 98 ways", 2, x.slips(0, 98));
        C.due("24: the most", 7, x.slips(0, 1000000000));
        C.due("24: 3 ways", 1, x.slips(1, 3));
        C.due("24: 4 ways", -1, x.slips(1, 4));
        C.due("24: of none", -1, x.slips(2, 2));
        C.dueThrow("24: -1", ILLEGAL, () -> x.slips(0, -1));
        C.dueThrow("24: too many", ILLEGAL, () -> x.slips(0, 1000000001));
        C.dueThrow("24: piece", NO_SUCH, () -> x.slips(3, -1));
    }

    private static long twelveOf48() {
        java.math.BigInteger sum = java.math.BigInteger.ZERO;
        java.math.BigInteger choose = java.math.BigInteger.ONE;
        for (int k = 0; k <= 12; k++) {
            sum = sum.add(choose.shiftLeft(k));
            choose = choose.multiply(java.math.BigInteger.valueOf(48 - k))
                .divide(java.math.BigInteger.valueOf(k + 1));
        }
        return sum.longValueExact();
    }

    private static void p25to27heard() {
        ValleyMass x = Check.told(CHOIR);
        C.due("26: nothing heard: anybody by anything", 25, x.flat(0));
        C.due("26: the first", 1, x.flat(1));
        C.due("26: nobody", 1, x.flat(2));
        C.due("25: hear", 1, x.hear(0, 2, 1, 16));
        C.due("26: the tenors by 2", 2, x.flat(0));
        C.due("26: the first", 2, x.flat(1));
        C.due("26: nobody", 0, x.flat(2));
        x.catches(0);
        C.due("26: who can't sing now isn't it", 1, x.flat(0));
        C.due("26: the first", 12, x.flat(1));
        C.due("25: hear", 2, x.hear(0, 2, 0, 14));
        C.due("26: not the other note", 0, x.flat(0));
        C.due("26: none", -1, x.flat(1));
        x.forget();
        C.due("27: forgotten", 0, x.count(10));
        C.due("25: as told", 1, x.hear(1, 3, 0, 6));
        C.due("26: all but the basses", 15, x.flat(0));
        x.forget();
        C.due("25: by 5", 1, x.hear(1, 3, 0, 1));
        C.due("26: the basses", 2, x.flat(0));
        C.due("26: the first", 25, x.flat(1));
        x.forget();
        C.due("25: by 6", 1, x.hear(1, 3, 0, 0));
        C.due("26: too much", 0, x.flat(0));
        x.forget();
        C.due("25: higher", 1, x.hear(1, 3, 0, 60));
        C.due("26: not higher", 0, x.flat(0));
        C.dueThrow("26: what", NO_SUCH, () -> x.flat(3));
        C.dueThrow("26: what", NO_SUCH, () -> x.flat(-1));

        C.due("25: no row", -1, x.hear(0, 0, 0, 1));
        C.due("25: no note", -1, x.hear(0, 2, 2, 1));
        C.due("25: no note", -1, x.hear(0, 2, -1, 1));
        C.due("25: 61", -1, x.hear(0, 2, 0, 61));
        C.due("25: -1", -1, x.hear(0, 2, 0, -1));
        C.due("25: refused", 5, x.count(14));
        C.dueThrow("25: piece", NO_SUCH, () -> x.hear(2, 0, 0, 1));
        C.dueThrow("25: part", NO_SUCH, () -> x.hear(0, 4, 0, 61));
        for (int i = 2; i <= 8; i++) {
            C.due("25: hear", i, x.hear(0, 2, 0, 0));
        }
        C.due("25: eight at most", -1, x.hear(0, 2, 0, 0));
        C.dueThrow("25: piece, ahead of that", NO_SUCH, () -> x.hear(2, 0, 0, 1));
        C.due("25: refused", 6, x.count(14));
        x.forget();
        C.due("27: forgotten", 0, x.count(10));
        C.due("27: nothing is wrong then", 1, x.flat(2));
    }

    private static void p28game() {
        // Each loses a bass of 5 when the other fires; the piece needs both.
        ValleyMass x = Check.told("north bass 0 9 5;south bass 0 9 5;piece;bass 2 5;");
        // Gains (north, south): fire fire 0 0, fire hold 5 -5, hold fire -5 5, hold hold much each.
        C.due("28: fire alone rests", 1, x.game(4, 0));
        C.due("28: the first", 0, x.game(4, 1));
        C.due("28: holding pays as much", 2, x.game(5, 0));
        C.due("28: the first", 0, x.game(5, 1));
        C.due("28: holding pays more", 2, x.game(99, 0));
        // The south has nobody to lose: the north fires at nobody, and the south must not fire.
        ValleyMass y = Check.told("north bass 0 9 3;piece;bass 1 5;");
        C.due("28: the south fires", 2, y.game(2, 0));
        C.due("28: the first", 0, y.game(2, 1));
        C.due("28: the south fires or not", 4, y.game(3, 0));
        C.due("28: the south holds", 2, y.game(4, 0));
        C.due("28: the first", 1, y.game(4, 1));
        C.due("28: nothing falls", 1, y.count(5));
        C.dueThrow("28: what", NO_SUCH, () -> y.game(0, 2));
        C.dueThrow("28: what", NO_SUCH, () -> y.game(100, -1));
        C.dueThrow("28: much", ILLEGAL, () -> y.game(100, 0));
        C.dueThrow("28: much", ILLEGAL, () -> y.game(-1, 1));
    }

    private static void p29wars() {
        ValleyMass x = Check.told("north bass 0 9 5;south bass 0 9 5;piece;bass 1 5;every 1;");
        C.due("29: no days", 0, x.wars(1, 0, 0));
        C.due("29: no days", 0, x.wars(1, 0, 1));
        C.due("29: no days", 1, x.wars(1, 0, 2));
        // From 1: 1103527590, then 2524885223 (as an int -1770082073): bits 16 to 30 are 16838
        // and 5758, both even: singer 0 is caught, then let go; the evenings are sung.
        C.due("29: two evenings", 2, x.wars(1, 2, 1));
        C.due("29: nobody fell", 0, x.wars(1, 2, 0));
        // From 3: 3310558080, bits 16 to 30 are 17747: singer 1 is caught; 0 sings.
        C.due("29: an evening", 1, x.wars(3, 1, 1));
        x.catches(0);
        // Now 0 is caught, then 1 too: nobody sings, nobody is there to fire.
        C.due("29: no evening", 0, x.wars(3, 1, 1));
        C.due("29: no piece", 0, x.wars(3, 1, 2));
        x.release(0);
        x.fall(0);
        x.days(1);
        C.due("29: the fallen in all", 1, x.wars(1, 2, 0));
        C.due("29: evenings in it", 2, x.wars(1, 2, 1));
        C.due("29: nothing changes", 1, x.count(3));
        C.dueThrow("29: what", NO_SUCH, () -> x.wars(1, 1, 3));
        C.dueThrow("29: what", NO_SUCH, () -> x.wars(1, 61, -1));
        C.dueThrow("29: n", ILLEGAL, () -> x.wars(1, 61, 0));
        C.dueThrow("29: n", ILLEGAL, () -> x.wars(1, -1, 0));
        C.due("29: without singers", 0, new ValleyMass().wars(1, 60, 0));
    }

    private static void p30cast() {
        ValleyMass x = Check.told(BASSES + "piece;");
        C.due("30: 9 and 8", 3, x.cast(0, 0));
        C.due("30: skills", 17, x.cast(0, 1));
        C.due("30: 9, 8, 7, 7", 0b010111, x.cast(1, 0));
        C.due("30: skills", 31, x.cast(1, 1));
        x.fall(1);
        C.due("30: of like ones the least", 5, x.cast(0, 0));
        C.due("30: no rows", -1, x.cast(2, 0));
        x.fall(0);
        C.due("30: can't be sung", -1, x.cast(1, 0));
        C.due("30: can't be sung", -1, x.cast(1, 1));
        C.dueThrow("30: what", NO_SUCH, () -> x.cast(0, 2));
        C.dueThrow("30: what", NO_SUCH, () -> x.cast(1, -1));
        C.dueThrow("30: piece", NO_SUCH, () -> x.cast(3, 0));
        C.due("30: of each row", 7, Check.told(CHOIR).cast(0, 0));
    }

    private static void p31transposed() {
        ValleyMass x = Check.told("north tenor 20 30 1;north tenor 10 24 1;south bass 0 48 1;"
            + "piece;tenor 1 8 22;piece;tenor 2 18 20;bass 1 0 40;piece;tenor 1 33;piece;tenor 1 43;"
            + "piece;");
        C.due("31: up by 2", 2, x.transposed(0));
        C.due("31: up by 2 for both", 2, x.transposed(1));
        C.due("31: down by 3", -3, x.transposed(2));
        C.due("31: more than 12", -99, x.transposed(3));
        C.due("31: no rows", -99, x.transposed(4));
        ValleyMass y = Check.told("north tenor 20 20 1;north tenor 24 24 1;south bass 0 48 1;"
            + "piece;tenor 1 22;piece;tenor 1 22;bass 1 1;piece;tenor 1 22;bass 1 47;"
            + "piece;tenor 1 22;bass 1 1 47;piece;tenor 1 20;");
        C.due("31: of like ones the one below 0", -2, y.transposed(0));
        C.due("31: none below 0", 2, y.transposed(1));
        C.due("31: none above 48", -2, y.transposed(2));
        C.due("31: neither", -99, y.transposed(3));
        C.due("31: as it is", 0, y.transposed(4));
        y.fall(0);
        C.due("31: up by 4", 4, y.transposed(4));
        C.dueThrow("31", NO_SUCH, () -> y.transposed(5));
        ValleyMass z = Check.told("north tenor 0 0 1;piece;tenor 1 12;piece;tenor 1 13;");
        C.due("31: down by 12", -12, z.transposed(0));
        C.due("31: not by 13", -99, z.transposed(1));
    }

    private static void p33to36() {
        ValleyMass x = Check.told("north bass 5 10 1;south bass 5 10 1;neutral bass 4 11 1;"
            + "north alto 0 48 1;south bass 6 12 1;piece;bass 4 10;piece;");
        C.due("33: like range, wider range", 0b110, x.standIns(0));
        C.due("33: not of the wider", 0, x.standIns(2));
        C.due("33: no other alto", 0, x.standIns(3));
        x.fall(1);
        x.catches(2);
        C.due("33: however they are", 0b110, x.standIns(0));
        C.due("33: of a fallen one", 0b101, x.standIns(1));
        C.dueThrow("33", NO_SUCH, () -> x.standIns(5));
        C.due("35: north", 1, x.voices(0, 3));
        C.due("35: south, one fell", 1, x.voices(1, 3));
        C.due("35: neutral, caught", 0, x.voices(2, 3));
        C.due("35: alto", 1, x.voices(0, 1));
        C.dueThrow("35: side", NO_SUCH, () -> x.voices(3, 0));
        C.dueThrow("35: side", NO_SUCH, () -> x.voices(-1, 0));
        C.dueThrow("35: part", NO_SUCH, () -> x.voices(0, 4));
        C.dueThrow("35: part", NO_SUCH, () -> x.voices(0, -1));
        C.due("36: 0 and 4 of four", 2, x.lacking(0, 3));
        x.undo();
        x.undo();
        C.due("36: all", 0, x.lacking(0, 3));
        C.dueThrow("36: row", NO_SUCH, () -> x.lacking(0, 1));
        C.dueThrow("36: row", NO_SUCH, () -> x.lacking(1, 3));
        C.dueThrow("36: part", NO_SUCH, () -> x.lacking(0, 4));
        C.dueThrow("36: piece", NO_SUCH, () -> x.lacking(2, 3));

        ValleyMass y = Check.told(CHOIR);
        y.fall(4);
        C.due("34: none in none", 0, y.falls(0));
        C.due("34: an evening", 0, y.falls(1));
        C.due("34: two a day", 2, y.falls(2));
        C.due("34: those who fall in it", 4, y.falls(99));
        C.dueThrow("34", ILLEGAL, () -> y.falls(100));
        C.dueThrow("34", ILLEGAL, () -> y.falls(-1));
        C.due("34: nothing changes", 15, y.count(5));
    }

    private static void p37widen() {
        ValleyMass x = Check.told("north bass 10 20 1;south bass 8 18 1;north bass 12 30 1;"
            + "piece;bass 1 9 22;piece;bass 2 9 18;piece;bass 2 9 19;piece;bass 1 12 20;alto 1 1;"
            + "piece;");
        // 0: 10 to 9 and 20 to 22 are 3; 1: 18 to 22 are 4; 2: 12 to 9 are 3.
        C.due("37: half tones, down and up", 3, x.widen(0, 0));
        C.due("37: of like ones the least", 0, x.widen(0, 1));
        // 1 can; 0 lacks 1, 2 lacks 3.
        C.due("37: one more", 1, x.widen(1, 0));
        C.due("37: who", 0, x.widen(1, 1));
        C.due("37: two are lacking", -1, x.widen(2, 0));
        C.due("37: two are lacking", -1, x.widen(2, 1));
        C.due("37: no alto", -1, x.widen(3, 0));
        C.due("37: no rows", -1, x.widen(4, 0));
        C.due("37: no rows", -1, x.widen(4, 1));
        x.catches(0);
        C.due("37: who is free", 2, x.widen(0, 1));
        C.due("37: who is free", 3, x.widen(0, 0));
        C.dueThrow("37: what", NO_SUCH, () -> x.widen(0, 2));
        C.dueThrow("37: what", NO_SUCH, () -> x.widen(0, -1));
        C.dueThrow("37: piece", NO_SUCH, () -> x.widen(5, 0));
        ValleyMass y = Check.told(CHOIR);
        C.due("37: it can be sung", 0, y.widen(0, 0));
        C.due("37: it can be sung", -1, y.widen(0, 1));
        y.fall(1);
        C.due("37: nobody else to widen", -1, y.widen(0, 0));
    }

    private static void p38bargain() {
        ValleyMass x = Check.told("north bass 0 9 1;south alto 0 9 1;north bass 0 9 1;"
            + "south tenor 0 9 1;piece;bass 1 1;piece;tenor 1 1;piece;alto 1 1;piece;tenor 1 2;"
            + "neutral soprano 0 9 1;piece;soprano 1 1;");
        C.due("38: nobody is caught", -1, x.bargain());
        x.catches(0);
        x.catches(1);
        C.due("38: one is free still; the alto", 1, x.bargain());
        x.catches(3);
        C.due("38: the tenor sings two", 3, x.bargain());
        x.catches(2);
        C.due("38: of like ones the least", 3, x.bargain());
        x.release(0);
        C.due("38: the other bass", 203, x.bargain());
        x.release(1);
        x.release(3);
        C.due("38: nobody of the south", -1, x.bargain());
        ValleyMass y = Check.told("north bass 0 9 1;south bass 0 9 1;piece;alto 1 1;");
        y.catches(0);
        y.catches(1);
        C.due("38: not more than now", -1, y.bargain());
    }

    private static void p39casts() {
        ValleyMass x = Check.told(BASSES + "south alto 0 9 1;north alto 0 9 1;piece;bass 3 10;"
            + "alto 1 1;piece;");
        C.due("39: two of six", 15, x.casts(0));
        C.due("39: four of five", 5, x.casts(1));
        C.due("39: three of six, one of two", 40, x.casts(2));
        C.due("39: no rows", 0, x.casts(3));
        x.fall(0);
        x.fall(1);
        C.due("39: can't be sung", 0, x.casts(1));
        C.dueThrow("39", NO_SUCH, () -> x.casts(4));
    }

    private static void p40to42rules() {
        // 0, 1 north; 2, 3, 4 south; 5 neutral.
        String six = "north bass 0 9 3;north alto 0 9 3;south bass 0 9 1;south alto 0 9 9;"
            + "south alto 0 9 9;neutral alto 0 9 9;piece;bass 1 5;every 2;";
        ValleyMass x = Check.told(six + "truce north own<other;truce south sung=1 and day<4;"
            + "aim north 10-skill;aim south 0-singer;");
        C.due("40: 2 below 3", true, x.holds(0));
        C.due("40: not sung yet", false, x.holds(1));
        C.due("41: least skill", 2, x.aimed(0));
        C.due("41: least number", 0, x.aimed(1));
        x.days(1);
        C.due("40: sung once", true, x.holds(1));
        C.due("42: days 1 to 2; sung twice then", 2, x.held(1, 5));
        C.due("42: on evenings too", 3, x.held(0, 3));
        C.due("42: none", 0, x.held(0, 0));
        x.fall(2);
        C.due("40: 2 below 2", false, x.holds(0));
        C.due("41: of like ones the least", 3, x.aimed(0));
        C.dueThrow("40", NO_SUCH, () -> x.holds(2));
        C.dueThrow("40", NO_SUCH, () -> x.holds(-1));
        C.dueThrow("41", NO_SUCH, () -> x.aimed(2));
        C.dueThrow("41", NO_SUCH, () -> x.aimed(-1));
        C.dueThrow("42", NO_SUCH, () -> x.held(2, 1));
        C.dueThrow("42", NO_SUCH, () -> x.held(-1, 100));
        C.dueThrow("42", ILLEGAL, () -> x.held(0, 100));
        C.dueThrow("42", ILLEGAL, () -> x.held(0, -1));
        C.due("42: nothing changes", 1, x.count(3));

        ValleyMass y = Check.told(six + "truce north fallen;truce south can-1;"
            + "aim north tone*10+part;aim south part;");
        C.due("40: nobody has fallen", false, y.holds(0));
        C.due("40: one piece less 1", false, y.holds(1));
        C.due("41: four altos; the first of the south", 3, y.aimed(0));
        C.due("41: the bass", 0, y.aimed(1));
        y.fall(1);
        y.catches(3);
        y.catches(4);
        C.due("40: one fell", true, y.holds(0));
        C.due("41: the bass is left", 2, y.aimed(0));
        y.catches(2);
        C.due("41: nobody", -1, y.aimed(0));

        ValleyMass z = Check.told("north bass 0 9 1;south bass 0 9 1;truce north 0-1;truce south 2;");
        C.due("40: below 0", false, z.holds(0));
        C.due("40: above 0", true, z.holds(1));
        results();
    }

    private static void results() {
        gives("1+2*3", 7);
        gives("(1+2)*3", 9);
        gives("7-3-2", 2);
        gives("(0-7)/2", -3);
        gives("7/2*2", 6);
        gives("5/0", 0);
        gives("0/0+4", 4);
        gives("9999*9999*9999", 9999 * 9999 * 9999);
        gives("2<3", 1);
        gives("3<3", 0);
        gives("3=3", 1);
        gives("2+1=3", 1);
        gives("not 5", 0);
        gives("not not 5", 1);
        gives("not 1<0", 1);
        gives("5 and 7", 1);
        gives("5 and 0", 0);
        gives("0 or 9", 1);
        gives("0 or 0", 0);
        gives("1 or 1 and 0", 1);
        gives("(1 or 1)and 0", 0);
        gives("not 0 and 0", 0);
        gives("5", 5);
        gives("(0-9999)*9999*9999", -9999 * 9999 * 9999);
    }

    /** A rule's value shows by comparing it, as a text has no minus sign of its own. */
    private static void gives(String rule, int value) {
        String high = Integer.toString(Math.abs(value / 10000));
        String low = Integer.toString(Math.abs(value % 10000));
        String number = "(" + high + "*100*100+" + low + ")";
        if (high.length() > 4) {
            number = "((" + high.substring(0, high.length() - 3) + "*1000+"
                + high.substring(high.length() - 3) + ")*100*100+" + low + ")";
        }
        String due = value < 0 ? "(0-" + number + ")" : number;
        ValleyMass x = Check.told("truce north (" + rule + ")=" + due + ";truce south " + rule + ";");
        C.due("40: " + rule + " is " + value, true, x.holds(0));
        C.due("40: " + rule + " is above 0", value > 0, x.holds(1));
    }

    private static void p43to45() {
        ValleyMass x = Check.told(CHOIR);
        C.due("43: as day 2 begins", 2, x.lost(0));
        C.due("43: as day 2 begins", 2, x.lost(1));
        C.due("44: north", 3, x.gone(0));
        C.due("44: south", 3, x.gone(1));
        C.due("44: neutral", -1, x.gone(2));
        C.due("45: one row", 1, x.rows(0));
        C.due("45: of two pieces", 2, x.rows(2));
        x.catches(2);
        C.due("45: caught", 0, x.rows(2));
        C.due("43: at once", 0, x.lost(1));
        x.fall(4);
        C.due("44: neutral, at once", 0, x.gone(2));
        C.dueThrow("43", NO_SUCH, () -> x.lost(2));
        C.dueThrow("44", NO_SUCH, () -> x.gone(3));
        C.dueThrow("44", NO_SUCH, () -> x.gone(-1));
        C.dueThrow("45", NO_SUCH, () -> x.rows(5));
        ValleyMass y = Check.told("north bass 0 9 1;south bass 0 9 1;piece;bass 2 5;every 9;"
            + "truce north 1;truce south day<97;piece;");
        C.due("43: day 98 is the 99th", 98, y.lost(0));
        C.due("44: day 98 is the 99th", 98, y.gone(0));
        C.due("43: no rows", 0, y.lost(1));
        ValleyMass z = Check.told("north bass 0 9 1;south bass 0 9 1;piece;bass 2 5;every 9;"
            + "truce north 1;truce south day<98;");
        C.due("43: day 99 is the 100th", -1, z.lost(0));
        C.due("44: day 99 is the 100th", -1, z.gone(0));
    }

    private static void p46to47image() {
        ValleyMass x = Check.told(CHOIR);
        C.due("47: none", false, x.restore());
        x.days(2);
        x.catches(1);
        x.hear(0, 2, 0, 12);
        x.image();
        x.release(1);
        x.fall(1);
        x.days(5);
        x.forget();
        x.hear(0, 2, 0, 3);
        x.hear(0, 2, 0, 3);
        C.due("refused", -1, x.days(0));
        C.due("47: restore", true, x.restore());
        imageIs(x);
        C.due("47: STATUS stays", 1, x.count(13));
        x.undo();
        x.undo();
        C.due("46: acts can be undone", 0, x.count(3));
        x.days(1);
        x.forget();
        C.due("47: again", true, x.restore());
        imageIs(x);
        C.due("46: acts are as they were", 1, x.undo());
        C.due("46: acts are as they were", 0, x.undo());
        C.due("46: the first act was days", 31, x.count(5));
        x.image();
        x.restore();
        C.due("46: in place of another one", 0, x.count(9));
    }

    private static void imageIs(ValleyMass x) {
        C.due("46: day", 2, x.count(3));
        C.due("46: sung", 1, x.count(4));
        C.due("46: free", 0b11000, x.count(5));
        C.due("46: caught", 0b10, x.count(6));
        C.due("46: fallen", 0b101, x.count(7));
        C.due("46: acts", 2, x.count(9));
        C.due("46: heard", 1, x.count(10));
    }
}
