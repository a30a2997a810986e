/**
 * The edges that the document names for the tape, for texts and for what a text may tell: a
 * method for each sentence, with what it names on both sides of the edge.
 */
public final class EdgesOfTextsTest {
    private static final Check C = new Check("EdgesOfTextsTest");
    private static final String BLANKS = " ".repeat(700);
    private static final String SINGER = "north bass 0 1 1;";
    private static final String TWELVE = " 0 1 2 3 4 5 6 7 8 9 10 48";

    public static void main(String[] args) {
        nobodyAndNoPieces();
        twentyBytesComeBehindTheTape();
        noneComeBeyond700();
        highestByteFirst();
        theTapesFirstBytes();
        theTapeHasNotSoMany();
        allStaysByAFault();
        allIsAnew();
        nothingIsLeftOfTheOldTexts();
        statusStays();
        theLatestFault();
        aTextOf700Bytes();
        fourteenSingers();
        lowestAndHighest();
        skill();
        fivePieces();
        atMostOneRow();
        need();
        notes();
        every();
        fourDigits();
        theLongestRowOfLetters();
        blanks();
        bytesThatAreNoTokens();
        lines();
        aTextThatEndsTooSoon();
        aRowAheadOfAllPieces();
        withinSixOthers();
        sevenNots();
        aWordThatIsNoValue();
        aSecondEvery();
        aSecondRule();
        theFirstAlongTheText();
        theLeastOfOneToken();
        C.end();
    }

    private static void fault(String text, int kind, int place) {
        ValleyMass x = new ValleyMass();
        C.due("valley of \"" + text + "\"", kind, Check.tell(x, text));
        C.due("fault of \"" + text + "\"", place, x.fault());
        C.due("refused, \"" + text + "\"", kind == 0 ? 0 : 1, x.count(12));
    }

    private static void good(String text) {
        fault(text, 0, -1);
    }

    /** A fault in what stands behind a text that is right until there. */
    private static void faultBehind(String right, String wrong, int kind) {
        fault(right + wrong, kind, right.length());
    }

    // ---- promises 1 to 4

    /** "Nobody, no PIECES." */
    private static void nobodyAndNoPieces() {
        ValleyMass x = new ValleyMass();
        for (int what = 0; what <= 14; what++) {
            C.due("1: count " + what, what == 2 ? 4 : 0, x.count(what));
        }
        C.due("1: fault", -1, x.fault());
        C.due("1: keys", 0, x.keys());
        C.due("1: peace", 99, x.peace());
        C.due("1: silent", 0, x.silent());
        C.due("1: duet", -1, x.duet());
        C.due("1: evening", 0, x.evening());
        C.due("1: bargain", -1, x.bargain());
        C.due("1: flat, how many", 0, x.flat(0));
        C.due("1: flat, the first", -1, x.flat(1));
        C.due("1: flat, with nobody", 1, x.flat(2));
        C.due("1: falls", 0, x.falls(99));
        C.due("1: game, how many", 4, x.game(99, 0));
        C.due("1: game, the first", 0, x.game(0, 1));
        for (int i = 0; i < 3; i++) {
            C.due("1: wars " + i, 0, x.wars(77, 60, i));
            C.due("1: gone " + i, 0, x.gone(i));
            C.due("1: voices " + i, 0, x.voices(i, 3));
        }
        for (int side = 0; side < 2; side++) {
            C.due("1: holds " + side, false, x.holds(side));
            C.due("1: aimed " + side, -1, x.aimed(side));
            C.due("1: held " + side, 0, x.held(side, 99));
        }
        C.due("1: undo", -1, x.undo());
        C.due("1: restore", false, x.restore());
        x.forget();
        C.due("1: days", 1, x.days(1));
        C.due("1: nothing is sung", 0, x.count(4));
        x.image();
        C.due("1: restore", true, x.restore());
        C.due("1: the day", 1, x.count(3));
    }

    /** "Twenty bytes come behind the tape .. how many it has". */
    private static void twentyBytesComeBehindTheTape() {
        ValleyMass x = new ValleyMass();
        C.due("2: the first twenty", 20, Check.feed(x, "north bass 0 9 1;sou"));
        C.due("2: behind them", 40, Check.feed(x, "th alto 0 9 2;      "));
        C.due("2: as one text", 0, x.valley(40));
        C.due("2: both are there", 2, x.count(0));
        C.due("2: the second one's side", 1, x.singer(1, 0));
    }

    /** "NONE, and none come, if it would have more than 700." */
    private static void noneComeBeyond700() {
        ValleyMass x = new ValleyMass();
        Check.feed(x, "every 7;");
        for (int many = 40; many <= 700; many += 20) {
            C.due("2: up to 700", many, Check.feed(x, BLANKS.substring(0, 20)));
        }
        C.due("2: beyond 700", -1, Check.feed(x, "every 8;every 9;;;;;"));
        C.due("2: none come", 700, x.count(11));
        C.due("2: beyond 700, again", -1, x.feed(0, 0, 0, 0, 0));
        C.due("2: nothing is refused for it", 0, x.count(12) + x.count(13) + x.count(14));
        C.due("2: the 700 are as they were", 0, x.valley(700));
        C.due("2: the first line", 7, x.count(2));
        C.due("2: empty, so there is room", 20, Check.feed(x, "every 8;every 9;;;;;"));
    }

    /** "of each number the highest first": numbers below 0 too, and bytes above 127. */
    private static void highestByteFirst() {
        ValleyMass x = new ValleyMass();
        x.feed(0x65766572, 0x7920333b, 0x20202020, 0x20202020, 0x202020ff);
        C.due("2: 255 is no token", 1, x.valley(20));
        C.due("2: the lowest byte comes last", 19, x.fault());
        x.feed(0x65766572, 0x7920333b, 0x20202020, 0x20202020, 0xff202020);
        C.due("2: 255 is no token", 1, x.valley(20));
        C.due("2: the highest byte comes first", 16, x.fault());
        x.feed(0x65766572, 0x7920333b, 0x20202020, 0x20202020, 0x80000000);
        C.due("2: it can be left out", 0, x.valley(16));
        C.due("2: every", 3, x.count(2));
    }

    /** "The tape's first n bytes (it is empty then) are a VALLEY". */
    private static void theTapesFirstBytes() {
        ValleyMass x = new ValleyMass();
        Check.feed(x, "every 7;every 7;");
        C.due("3: the first 8 bytes", 0, x.valley(8));
        C.due("3: it is empty then", 0, x.count(11));
        C.due("3: nothing is left of it", 20, Check.feed(x, "every 2;"));
        C.due("3: all bytes", 0, x.valley(20));
        C.due("3: every", 2, x.count(2));
        Check.feed(x, "every 7;every 7;");
        C.due("3: none of the bytes", 0, x.valley(0));
        C.due("3: empty then, too", 0, x.count(11));
        C.due("3: an empty text", 4, x.count(2));
        C.due("3: an empty text of an empty tape", 0, x.valley(0));
        Check.feed(x, "every 7;every 7;");
        C.due("3: a fault", 5, x.valley(16));
        C.due("3: empty behind a fault", 0, x.count(11));
        C.dueThrow("3: empty behind a fault", Check.ILLEGAL, () -> x.valley(1));
    }

    /** "IllegalArgumentException: the tape has not so many, n below 0 (nothing changes)." */
    private static void theTapeHasNotSoMany() {
        ValleyMass x = new ValleyMass();
        C.dueThrow("3: 1 of 0", Check.ILLEGAL, () -> x.valley(1));
        C.due("3: a fault", 1, Check.tell(x, "north 1;"));
        Check.feed(x, "every 7;");
        String before = Check.allOf(x);
        for (int n : new int[] {21, 22, 700, 701, Integer.MAX_VALUE, -1, -20, Integer.MIN_VALUE}) {
            C.dueThrow("3: valley " + n, Check.ILLEGAL, () -> x.valley(n));
            C.due("3: nothing changes", before, Check.allOf(x));
        }
        C.due("3: the tape stays", 20, x.count(11));
        C.due("3: the fault's place stays", 6, x.fault());
        C.due("3: no text was refused by it", 1, x.count(12));
        C.due("3: 20 of 20", 0, x.valley(20));
        C.due("3: every", 7, x.count(2));
        Check.feed(x, BLANKS);
        C.dueThrow("3: 701 of 700", Check.ILLEGAL, () -> x.valley(701));
        C.due("3: 700 of 700", 0, x.valley(700));
    }

    private static final String FIRST = "north bass 0 9 7;south bass 0 9 6;piece;bass 1 5 6;every 3;"
        + "truce north day=1;aim south 0-skill;";
    private static final String SECOND = "neutral alto 1 2 3;south alto 0 9 6;south bass 0 48 6;piece;"
        + "piece;alto 2 1 1 1;bass 4 9;every 9;truce north 1;truce south 1;aim north 1;aim south 9;";

    /** "or the FAULT (all stays)": nothing of a faulty text comes in, and nothing goes. */
    private static void allStaysByAFault() {
        ValleyMass x = Check.told(FIRST);
        x.fall(1);
        x.hear(0, 3, 1, 5);
        x.image();
        x.days(1);
        String before = Check.allOf(x);
        C.due("3: a fault at its end", 1, Check.tell(x, SECOND + "piece"));
        C.due("3: its place", SECOND.length() + 5, x.fault());
        C.due("3: one text was refused", 1, x.count(12));
        C.due("3: the rest stays", before.replace("fault -1 texts 0", "fault "
            + x.fault() + " texts 1"), Check.allOf(x));
        C.due("3: the rule stays", true, x.holds(0));
        C.due("3: no other rule comes", false, x.holds(1));
        C.due("3: the image stays", true, x.restore());
        C.due("3: as it was", 0, x.count(3));
        C.due("3: acts stay", 0, x.undo());
        C.due("3: who fell is free", 3, x.count(5));
    }

    /** "are a VALLEY, all anew .. ACTS, what is HEARD, the image are gone". */
    private static void allIsAnew() {
        ValleyMass x = Check.told(SECOND);
        x.fall(0);
        x.catches(1);
        x.days(30);
        x.hear(1, 3, 0, 9);
        x.image();
        C.due("3: valley", 0, Check.tell(x, FIRST));
        C.due("3: as if it were the first one", Check.allOf(Check.told(FIRST)), Check.allOf(x));
        C.due("3: no acts", -1, x.undo());
        C.due("3: no image", false, x.restore());
        C.due("3: only the south of the two aims anew", 0, x.aimed(1));
        C.due("3: no truce of the south", false, x.holds(1));
        // The rules and rows of the text before the last one must be gone, too.
        C.due("3: valley", 0, Check.tell(x, "south bass 0 9 1;north bass 0 9 1;north alto 0 9 9;piece;piece;"));
        C.due("3: all rows are gone", 0, x.row(1, 1, -1) + x.row(1, 3, -1) + x.row(0, 3, -1)
            + x.row(1, 1, -2) + x.able(1, 1) + x.able(1, 3) + x.able(0, 3));
        C.due("3: all rules are gone", false, x.holds(0) || x.holds(1));
        C.due("3: the most skilled is aimed at", 2, x.aimed(1));
        C.due("3: every", 4, x.count(2));
        C.due("3: a fault", 1, Check.tell(x, SECOND + ";"));
        C.due("3: valley", 0, Check.tell(x, "south bass 0 9 1;piece;piece;"));
        C.due("3: nothing of a faulty text", 0, x.row(1, 1, -1) + x.row(1, 3, -1) + x.count(3));
        C.due("3: nothing of a faulty text", false, x.holds(0) || x.holds(1));
        C.due("3: an empty text", 0, x.valley(0));
        C.due("3: nobody", 0, x.count(0) + x.count(1) + x.count(5));
        C.due("3: four", 4, x.count(2));
    }

    /** Each text is told again and again: the second, the third and the tenth are as the first. */
    private static void nothingIsLeftOfTheOldTexts() {
        ValleyMass x = new ValleyMass();
        String high = "north soprano 0 48 1;piece;soprano 1 48 0;truce north not not 0;every 1;";
        String low = "north soprano 0 0 1;piece;soprano 1 0;truce north 1;every 1;";
        String wide = "truce north 344=1" + "+1".repeat(340) + "+3;";
        for (int i = 0; i < 10; i++) {
            C.due("3: high", 0, Check.tell(x, high) + Check.tell(x, high));
            C.due("3: the day", 0, x.count(3));
            C.due("3: the rule", false, x.holds(0));
            x.days(5);
            C.due("3: sung", 5, x.count(4));
            C.due("3: low", 0, Check.tell(x, low) + Check.tell(x, low));
            C.due("3: sung no more", 0, x.count(4));
            C.due("3: who can sing it", 1, x.able(0, 0));
            C.due("3: the rule", true, x.holds(0));
            C.due("3: wide", 0, Check.tell(x, wide) + Check.tell(x, wide));
            C.due("3: the wide rule", true, x.holds(0));
            C.due("3: no rows", 0, Check.tell(x, "piece;") + Check.tell(x, "piece;"));
            C.due("3: no rows", 0, x.row(0, 0, -1) + x.row(0, 0, -2));
        }
    }

    /** "(STATUS stays)": behind a text, behind restore() and behind undo(). */
    private static void statusStays() {
        ValleyMass x = Check.told(FIRST);
        x.image();
        Check.tell(x, "every");
        Check.tell(x, "piece");
        x.release(0);
        x.hear(0, 0, 0, 1);
        x.hear(0, 0, 0, 1);
        x.hear(0, 0, 0, 1);
        x.days(1);
        x.undo();
        x.restore();
        for (int i = 0; i < 2; i++) {
            C.due("STATUS 0", 2, x.count(12));
            C.due("STATUS 1", 1, x.count(13));
            C.due("STATUS 2", 3, x.count(14));
            C.due("3: valley", 0, Check.tell(x, FIRST));
        }
    }

    /** "The place of the latest valley()'s FAULT; NONE without." */
    private static void theLatestFault() {
        ValleyMass x = new ValleyMass();
        C.due("4: without a text", -1, x.fault());
        Check.tell(x, ";");
        C.due("4: at 0", 0, x.fault());
        Check.tell(x, "piece;;");
        C.due("4: the latest one", 6, x.fault());
        x.days(1);
        x.undo();
        x.image();
        x.restore();
        C.due("4: it stays until the next text", 6, x.fault());
        Check.feed(x, "every 1;");
        C.due("4: behind feed, too", 6, x.fault());
        x.valley(8);
        C.due("4: without", -1, x.fault());
    }

    // ---- the text

    /** "A TEXT of at most 700 bytes tells it." */
    private static void aTextOf700Bytes() {
        ValleyMass x = new ValleyMass();
        C.due("a text of 700", 0, Check.tell(x, BLANKS.substring(8) + "every 7;"));
        C.due("its last line", 7, x.count(2));
        fault(BLANKS.substring(5) + "piece", 1, 700);
        fault(BLANKS.substring(1) + "7", 1, 699);
        good("\n".repeat(699) + " ");
        fault(";".repeat(700), 1, 0);
        fault("z".repeat(700), 1, 0);
        fault("every " + "1".repeat(694), 2, 6);
        good("truce north 1" + "+1".repeat(343) + ";");
        fault("truce north 1" + "+1".repeat(343) + "+", 1, 700);
        fault("truce north 1" + "+1".repeat(342) + "<12", 1, 700);
    }

    /** "SINGERS 0, 1 .. (at most 14)"; FAULT 2 at "the first TOKEN of the 15th SINGER". */
    private static void fourteenSingers() {
        ValleyMass x = Check.told(SINGER.repeat(13) + "neutral alto 3 4 5;");
        C.due("14 singers", 14, x.count(0));
        C.due("14 are free", 16383, x.count(5));
        int[] due = {2, 1, 3, 4, 5, 0};
        for (int what = 0; what < 6; what++) {
            C.due("6: the 14th, " + what, due[what], x.singer(13, what));
        }
        String fourteen = SINGER.repeat(14);
        faultBehind(fourteen, SINGER, 2);
        faultBehind(fourteen, "south tenor 0 1 1;", 2);
        faultBehind(fourteen, "neutral tenor 0 1 1;", 2);
        faultBehind(fourteen, "north", 2);
        faultBehind(fourteen, "north 99;", 2);
        faultBehind(fourteen + "piece;bass 1 1;every 2;\n ", "north bass 1 0 1;", 2);
        good(fourteen + "piece;bass 1 1;every 2;truce north 1;");
    }

    /** "the LOWEST and the HIGHEST note (0 to 48)", "(a HIGHEST below the LOWEST)". */
    private static void lowestAndHighest() {
        good("north bass 0 0 1;");
        good("north bass 48 48 1;");
        ValleyMass x = Check.told("north bass 0 48 1;");
        C.due("6: the lowest", 0, x.singer(0, 2));
        C.due("6: the highest", 48, x.singer(0, 3));
        faultBehind("north bass ", "49 49 1;", 2);
        faultBehind("north bass ", "49", 2);
        faultBehind("north bass ", "9999 1 1;", 2);
        faultBehind("north bass 0 ", "49 1;", 2);
        faultBehind("north bass 48 ", "49 1;", 2);
        faultBehind("north bass 48 ", "47 1;", 2);
        faultBehind("north bass 1 ", "0 1;", 2);
        faultBehind("north bass ", "-1 1 1;", 1);
    }

    /** "SKILL (0 to 9)". */
    private static void skill() {
        good("south alto 1 2 0;");
        C.due("6: the most skilled", 9, Check.told("south alto 1 2 9;").singer(0, 4));
        faultBehind("south alto 1 2 ", "10;", 2);
        faultBehind("south alto 1 2 ", "9999;", 2);
        faultBehind("south alto 1 2 ", "12345;", 2);
        faultBehind("south alto 1 2 ", ";", 1);
    }

    /** "PIECES 0, 1 .. (at most 5)"; FAULT 2 at the first TOKEN of "the 6th PIECE". */
    private static void fivePieces() {
        String five = "piece;".repeat(5);
        ValleyMass x = Check.told(five + "bass 1 3;");
        C.due("5 pieces", 5, x.count(1));
        C.due("7: the row is of the fifth", 1, x.row(4, 3, -1));
        C.due("7: none is of the fourth", 0, x.row(3, 3, -1));
        faultBehind(five, "piece;", 2);
        faultBehind(five, "piece", 2);
        faultBehind(five, "piece 12;", 2);
        faultBehind(five + "bass 1 3;every 1;", "piece;", 2);
    }

    /** "of each PART at most one ROW"; FAULT 4: "the PART of a ROW that the PIECE has already". */
    private static void atMostOneRow() {
        String all = "piece;soprano 1 1;alto 2 2;tenor 3 3;bass 4 4;";
        ValleyMass x = Check.told(all + all);
        for (int part = 0; part < 4; part++) {
            C.due("7: need of " + part, part + 1, x.row(0, part, -1));
            C.due("7: need of " + part, part + 1, x.row(1, part, -1));
            C.due("7: its note", part + 1, x.row(1, part, 0));
        }
        for (String part : new String[] {"soprano", "alto", "tenor", "bass"}) {
            faultBehind(all, part + " 1 1;", 4);
            faultBehind(all + all, part, 4);
            faultBehind("piece;" + part + " 1 1;every 3;", part + " 9", 4);
            good("piece;" + part + " 1 1;piece;" + part + " 1 1;");
        }
    }

    /** "NEED (1 to 4 singers)". */
    private static void need() {
        C.due("7: need 1", 1, Check.told("piece;alto 1 1;").row(0, 1, -1));
        C.due("7: need 4", 4, Check.told("piece;alto 4 1;").row(0, 1, -1));
        faultBehind("piece;alto ", "0 1;", 2);
        faultBehind("piece;alto ", "5 1;", 2);
        faultBehind("piece;alto ", "00001 1;", 2);
        faultBehind("piece;alto ", ";", 1);
    }

    /** "NOTES (1 to 12, each 0 to 48)"; FAULT 2 at "the 13th NOTE". */
    private static void notes() {
        ValleyMass x = Check.told("piece;alto 1" + TWELVE + ";tenor 1 48;");
        C.due("7: twelve notes", 12, x.row(0, 1, -2));
        C.due("7: the first", 0, x.row(0, 1, 0));
        C.due("7: the twelfth", 48, x.row(0, 1, 11));
        C.dueThrow("7: no thirteenth", Check.NO_SUCH, () -> x.row(0, 1, 12));
        C.due("7: one note", 1, x.row(0, 2, -2));
        C.dueThrow("7: no second", Check.NO_SUCH, () -> x.row(0, 2, 1));
        faultBehind("piece;alto 1", ";", 1);
        faultBehind("piece;alto 1 ", "49;", 2);
        faultBehind("piece;alto 1 0 ", "49;", 2);
        faultBehind("piece;alto 1 0 1 2 3 4 5 6 7 8 9 10 ", "49;", 2);
        faultBehind("piece;alto 1" + TWELVE + " ", "0;", 2);
        faultBehind("piece;alto 1" + TWELVE + " ", "49;", 2);
        faultBehind("piece;alto 1" + TWELVE + " ", "12345;", 2);
        faultBehind("piece;alto 1" + TWELVE + " ", "0 1 2;", 2);
        faultBehind("piece;alto 1" + TWELVE + " ", "alto;", 1);
        faultBehind("piece;alto 1" + TWELVE, "", 1);
        faultBehind("piece;alto 1 5 ", "-5;", 1);
    }

    /** "EVERY (1 to 9; 4 without)". */
    private static void every() {
        C.due("5: every 1", 1, Check.told("every 1;").count(2));
        C.due("5: every 9", 9, Check.told("every 9;").count(2));
        C.due("5: without", 4, Check.told("piece;").count(2));
        faultBehind("every ", "0;", 2);
        faultBehind("every ", "10;", 2);
        faultBehind("every ", "00009;", 2);
        faultBehind("every", ";", 1);
    }

    /** "NUMBERS (1 to 4 digits)"; FAULT 2: "a NUMBER of 5 digits or more". */
    private static void fourDigits() {
        ValleyMass x = Check.told("north bass 0007 0048 0009;piece;bass 0004 0000;every 0002;");
        C.due("four digits", 7, x.singer(0, 2));
        C.due("four digits", 48, x.singer(0, 3));
        C.due("four digits", 4, x.row(0, 3, -1));
        C.due("four digits", 2, x.count(2));
        good("truce north 9999;");
        good("aim north 0000;");
        faultBehind("truce north ", "10000;", 2);
        faultBehind("truce north ", "00000;", 2);
        faultBehind("truce north 1+", "99999999999999999999;", 2);
        faultBehind("truce north (1<", "4294967297);", 2);
        faultBehind("every ", "00001;", 2);
        faultBehind("every ", "4294967297;", 2);
    }

    /** "words (a .. z, the longest row)". */
    private static void theLongestRowOfLetters() {
        good("north alto0 9 1;piece;alto1 5;every3;truce north 1or 1and not(1);");
        fault("northalto 0 9 1;", 1, 0);
        fault("pieces;", 1, 0);
        fault("piec;", 1, 0);
        fault("everyy 1;", 1, 0);
        fault("north altos 0 9 1;", 1, 6);
        fault("truce north notday;", 3, 12);
        fault("truce north 1 andnot 1;", 1, 14);
        fault("pie ce;", 1, 0);
        good("truce north 12;");
        fault("truce north 1 2;", 1, 14);
        fault("{;", 1, 0);
        fault("`;", 1, 0);
        fault("Piece;", 1, 0);
        fault("piecE;", 1, 0);
    }

    /** "blanks (32, 10) between them count for nothing". */
    private static void blanks() {
        good("");
        good(" ");
        good("\n");
        good("\n north \n\n alto  0\n9 1 ; \n piece ; alto 1\n5 \n 6;\n");
        ValleyMass x = Check.told("truce\nnorth\n( 1 + 1 )\n= 2 ; \n");
        C.due("blanks in a rule", true, x.holds(0));
        good("truce north(1+1)=2;aim south 1;");
        fault("every 1 ;  ;", 1, 11);
        fault("  every 1;\n every 1;", 5, 12);
    }

    /** FAULT 1: "a TOKEN that can't stand there, or is none". */
    private static void bytesThatAreNoTokens() {
        for (int sign = 0; sign < 256; sign++) {
            char c = (char) sign;
            boolean blank = c == ' ' || c == '\n';
            if (blank) {
                good("piece;" + c);
            } else {
                faultBehind("piece;", "" + c, 1);
            }
            // A digit is a note and a blank is nothing: the text ends too soon behind them.
            boolean goesOn = blank || c >= '0' && c <= '9';
            if (c == ';') {
                good("piece;bass 1 7 ;");
            } else {
                fault("piece;bass 1 7 " + c, 1, goesOn ? 16 : 15);
            }
        }
    }

    /** "VALLEY: LINE*", and what each LINE is made of. */
    private static void lines() {
        fault(";", 1, 0);
        fault("piece;;", 1, 6);
        fault("5;", 1, 0);
        fault("day;", 1, 0);
        fault("or;", 1, 0);
        fault("(", 1, 0);
        fault("north;", 1, 5);
        fault("north south 1 2 3;", 1, 6);
        fault("north 1 2 3;", 1, 6);
        fault("north alto bass 1 2 3;", 1, 11);
        fault("north alto 1 2;", 1, 14);
        fault("north alto 1 2 3 4;", 1, 17);
        fault("piece piece;", 1, 6);
        fault("every every;", 1, 6);
        fault("every 1 1;", 1, 8);
        fault("truce;", 1, 5);
        fault("truce neutral 1;", 1, 6);
        fault("aim neutral 1;", 1, 4);
        fault("aim bass 1;", 1, 4);
        fault("aim north;", 1, 9);
        fault("aim north 1 1;", 1, 12);
        fault("aim north 1);", 1, 11);
        fault("aim north (1;", 1, 12);
        fault("aim north 1<1<1;", 1, 13);
        fault("aim north 1=1=1;", 1, 13);
        fault("aim north 1<1=1;", 1, 13);
        fault("aim north -1;", 1, 10);
        fault("aim north 1-;", 1, 12);
        fault("aim north 1-*1;", 1, 12);
        fault("aim north 1 or;", 1, 14);
        fault("aim north 1 not 1;", 1, 12);
        good("aim north 1<1 and 1=1 or (1<1)=1;");
    }

    /** FAULT 1, "the text's length where it ends too soon". */
    private static void aTextThatEndsTooSoon() {
        String text = "north alto 1 2 3;piece;alto 1 5 6;every 3;truce south (day+1)*2<3 and not 1;";
        for (int end = 0; end <= text.length(); end++) {
            String cut = text.substring(0, end);
            boolean whole = cut.isEmpty() || cut.endsWith(";");
            if (whole) {
                good(cut);
                good(cut + "\n \n");
            } else if (!Character.isLetter(cut.charAt(end - 1)) || !Character.isLetter(text.charAt(end))) {
                fault(cut, 1, end);
                fault(cut + "\n \n", 1, end + 3);
            }
        }
    }

    /** FAULT 1, "a ROW ahead of all PIECES". */
    private static void aRowAheadOfAllPieces() {
        fault("bass 1 1;", 1, 0);
        fault("soprano 1 1;piece;", 1, 0);
        faultBehind("every 2;" + SINGER, "alto 0;", 1);
        faultBehind("truce north 1;", "tenor", 1);
        good("piece;every 2;" + SINGER + "alto 1 1;");
    }

    /** FAULT 2, the first TOKEN "of an EXPR within 6 others (a NUMBER, any word, a parenthesis)". */
    private static void withinSixOthers() {
        for (String rule : new String[] {"truce north ", "aim south "}) {
            String value = rule.startsWith("t") ? "own" : "tone";
            good(rule + "(((((1)))));");
            good(rule + "(((((" + value + ")))));");
            good(rule + "1+(2*(3<(not(1 and(1)))));");
            good(rule + "(1)+(2)*(3)-(4)/(5)<(6)+(7);");
            good(rule + "(((((1)))))+(((((1)))));");
            faultBehind(rule + "((((((", "1))))));", 2);
            faultBehind(rule + "((((((", value + "))))));", 2);
            faultBehind(rule + "((((((", "(1)))))));", 2);
            faultBehind(rule + "((((((", "not 1))))));", 2);
            faultBehind(rule + "((((((", "organ", 2);
            faultBehind(rule + "((((((", "and", 2);
            faultBehind(rule + "((((((", "north", 2);
            faultBehind(rule + "((((((", "12345", 2);
            faultBehind(rule + "((((((", "(", 2);
            faultBehind(rule + "((((((", ")", 1);
            faultBehind(rule + "((((((", ";", 1);
            faultBehind(rule + "((((((", "+1", 1);
            faultBehind(rule + "((((((", "!", 1);
            faultBehind(rule + "((((((", "", 1);
            faultBehind(rule + "1+(2*(3<(not(1 and(1 or (", "1)))));", 2);
            faultBehind(rule + "(((((1)))))+((((((", "1))))));", 2);
            faultBehind(rule + "(((((1+(", "1))))));", 2);
            good(rule + "(((((1)+(1)+(1)))));");
        }
    }

    /** FAULT 2, "the seventh 'not' side by side". */
    private static void sevenNots() {
        String six = "not not not not not not ";
        good("truce north " + six + "1;");
        good("aim south " + six + "tone<1;");
        good("truce north " + six + "(" + six + "1);");
        good("truce north " + six + "1 and " + six + "1 or " + six + "1;");
        faultBehind("truce north " + six, "not 1;", 2);
        faultBehind("aim south " + six, "not", 2);
        faultBehind("truce north 1 and " + six, "not not 1;", 2);
        faultBehind("truce north 1 or " + six, "not 1;", 2);
        faultBehind("truce north " + six + "(" + six, "not 1);", 2);
        faultBehind("truce north " + six, "organ;", 3);
        faultBehind("truce north " + six, "and 1;", 3);
        faultBehind("truce north " + six, ";", 1);
        C.due("six of them", true, Check.told("truce north " + six + "7;").holds(0));
        C.due("five of them", false, Check.told("truce north " + six.substring(4) + "7;").holds(0));
    }

    /** FAULT 3: "any word where a TERM must stand that is no VALUE of this EXPR". */
    private static void aWordThatIsNoValue() {
        String[] ofTruce = {"day", "sung", "own", "other", "fallen", "can"};
        String[] ofAim = {"skill", "part", "singer", "tone"};
        String[] ofNone = {"north", "south", "neutral", "soprano", "bass", "piece", "every", "truce",
            "aim", "or", "and", "a", "z", "days", "tones"};
        for (String side : new String[] {"north ", "south "}) {
            for (String value : ofTruce) {
                good("truce " + side + value + ";");
                faultBehind("aim " + side, value + ";", 3);
                faultBehind("aim " + side + "1*", value, 3);
            }
            for (String value : ofAim) {
                good("aim " + side + value + ";");
                faultBehind("truce " + side, value + ";", 3);
                faultBehind("truce " + side + "(not ", value, 3);
            }
            for (String word : ofNone) {
                faultBehind("truce " + side, word, 3);
                faultBehind("aim " + side + "1<", word + ";", 3);
                faultBehind("aim " + side + "(((((", word + ";", 3);
            }
        }
        faultBehind("truce north 1+", "not 1;", 3);
        faultBehind("truce north 1<", "not 1;", 3);
        faultBehind("truce north 1/", "not 1;", 3);
        faultBehind("truce north 1 ", "day;", 1);
        faultBehind("truce north day ", "organ;", 1);
    }

    /** FAULT 5: "a second 'every'". */
    private static void aSecondEvery() {
        faultBehind("every 1;", "every 1;", 5);
        faultBehind("every 1;" + SINGER + "piece;", "every", 5);
        faultBehind("every 1;", "every 10;", 5);
    }

    /** FAULT 5: "a second rule of a kind for a SIDE (its 'north', 'south')". */
    private static void aSecondRule() {
        String all = "truce north 1;truce south 1;aim north 1;aim south 1;";
        good(all);
        good("aim south 0;truce south 0;aim north 0;truce north 0;");
        for (String rule : new String[] {"truce ", "aim "}) {
            for (String side : new String[] {"north", "south"}) {
                faultBehind(all + rule, side + " 1;", 5);
                faultBehind(all + rule, side, 5);
                faultBehind(rule + side + " 0;" + rule, side + " organ;", 5);
            }
            faultBehind(all + rule, "neutral 1;", 1);
        }
    }

    /** "FAULTS, the first along the text". */
    private static void theFirstAlongTheText() {
        fault("every 0;organ;", 2, 6);
        fault("organ;every 0;", 1, 0);
        fault("truce north skill;every 0;;", 3, 12);
        fault("piece;bass 1 1;bass 1 1;bass 1 1;;", 4, 15);
        fault("every 1;every 1;every 1;", 5, 8);
        fault("north bass 49 12345 10;", 2, 11);
        fault("aim north 1<1<12345;", 1, 13);
    }

    /** "of one TOKEN the least". */
    private static void theLeastOfOneToken() {
        // Too long, but it couldn't stand there either.
        fault("12345;", 1, 0);
        fault("piece 12345;", 1, 6);
        fault("north 12345 1 2 3;", 1, 6);
        fault("aim north 1 12345;", 1, 12);
        fault("aim 12345 1;", 1, 4);
        // No VALUE, but an EXPR too deep already.
        fault("aim north ((((((organ))))));", 2, 16);
        fault("aim north ((((((day))))));", 2, 16);
        // A ROW that would be one too many of its PART, but stands ahead of all PIECES.
        fault("bass 1 1;bass 1 1;", 1, 0);
    }
}
