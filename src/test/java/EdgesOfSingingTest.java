import java.math.BigInteger;

/**
 * The edges that the document names for what can be sung, heard and exchanged: a method for each
 * sentence, with what it names on both sides of the edge.
 */
public final class EdgesOfSingingTest {
    private static final Check C = new Check("EdgesOfSingingTest");
    private static final String TWELVE = " 0 0 0 0 0 0 0 0 0 0 0 0;";
    private static final String ALL_NOTES = "piece;soprano 1" + TWELVE + "alto 1" + TWELVE
        + "tenor 1" + TWELVE + "bass 1" + TWELVE;

    private static final String[] PARTS = {"soprano", "alto", "tenor", "bass"};

    public static void main(String[] args) {
        for (int i = 0; i < 20; i++) {
            theFirstAndTheLast(i / 4, i % 4);
            twoOfEachPart(i % 4);
        }
        allNotesAreInHisRange();
        asManyAsNeed();
        ofNoRows();
        movedByTwelve();
        aNoteIsMovedOnce();
        movedForAsManyAsNeed();
        allNotesMoved();
        spare();
        keys();
        ransom();
        ransomOfAsFewTheLeast();
        ransomOfMany();
        duet();
        luck();
        luckOfFourteen();
        codes();
        slips();
        heardAtMostEight();
        heardSoHigh();
        flatByOneToFive();
        flatInAnyRow();
        flatWithNothingHeard();
        cast();
        transposed();
        noneBelow0OrAbove48();
        anEvening();
        standIns();
        voices();
        lacking();
        widen();
        widenOfLikeOnesTheLeast();
        bargain();
        casts();
        rows();
        C.end();
    }

    // ---- who can sing

    /** PIECES 0 to 4 and PARTS 0 to 3: every question is asked of each. */
    private static void theFirstAndTheLast(int piece, int part) {
        String name = PARTS[part];
        ValleyMass x = Check.told("north P 10 20 3;south P 12 22 5;neutral P 10 20 4;".replace("P", name)
            + "piece;".repeat(piece + 1) + name + " 2 12 20;");
        int[] due = {7, 1 << piece, 0, 1, 0, 1, 1, 9, 6, 9, 3, 0, 1 << piece, 0, 0, 1, 2, 1, 3, 1};
        int[] got = {x.able(piece, part), x.count(8), x.moved(piece), x.spare(piece), x.keys(),
            x.luck(piece, 1, 0), x.luck(piece, 1, 1), (int) x.codes(piece, 2), x.cast(piece, 0),
            x.cast(piece, 1), (int) x.casts(piece), x.transposed(piece), x.evening(),
            x.lacking(piece, part), x.widen(piece, 0), x.rows(0), x.lost(piece),
            x.hear(piece, part, 0, 11), x.flat(0), x.flat(1)};
        for (int i = 0; i < due.length; i++) {
            C.due("piece " + piece + ", part " + part + ", question " + i, due[i], got[i]);
        }
        C.due("35: voices", 1, x.voices(2, part));
        x.catches(0);
        C.due("17: two are left", 6, x.keys());
        C.due("22: two are left", 0, x.luck(piece, 1, 0));
        x.catches(1);
        int[] fewer = {4, 0, -1, -1, 0, 0, 0, -1, -1, 0, -99, 0, 1, -1, 3, 1, 0};
        int[] then = {x.able(piece, part), x.count(8), x.moved(piece), x.spare(piece), x.keys(),
            x.luck(piece, 0, 0), x.luck(piece, 1, 0), x.cast(piece, 0), x.cast(piece, 1),
            (int) x.casts(piece), x.transposed(piece), x.evening(), x.lacking(piece, part),
            x.widen(piece, 0), x.ransom(piece), x.bargain(), x.lost(piece)};
        for (int i = 0; i < fewer.length; i++) {
            C.due("piece " + piece + ", part " + part + ", caught, question " + i, fewer[i], then[i]);
        }
        helped(piece, part);
    }

    /** One who reaches the notes moved, transposed or by a wider range. */
    private static void helped(int piece, int part) {
        String name = PARTS[part];
        ValleyMass x = Check.told("north " + name + " 10 20 3;" + "piece;".repeat(piece + 1) + name
            + " 1 8 12;every 2;truce south 1;");
        C.due("15: moved", 1, x.moved(piece));
        C.due("31: transposed", 2, x.transposed(piece));
        C.due("37: widen", 2, x.widen(piece, 0));
        C.due("37: who", 0, x.widen(piece, 1));
        C.due("36: lacking", 1, x.lacking(piece, part));
        C.due("24: slips", 2, x.slips(piece, 9));
        C.due("18: ransom", -1, x.ransom(piece));
    }

    /** DUET and AN EVENING of each couple, by two of a PART or by one alone. */
    private static void twoOfEachPart(int part) {
        String name = PARTS[part];
        String one = "north " + name + " 0 9 1;";
        for (int first = 0; first < 5; first++) {
            for (int second = first + 1; second < 5; second++) {
                String pieces = "piece;".repeat(first + 1) + name + " 1 5;"
                    + "piece;".repeat(second - first) + name + " 1 5;";
                C.due("21: by two", 10 * first + second, Check.told(one + one + pieces).duet());
                C.due("21: by one", -1, Check.told(one + pieces).duet());
                C.due("32: by two", 1 << first | 1 << second, Check.told(one + one + pieces).evening());
                C.due("32: by one", 1 << first, Check.told(one + pieces).evening());
            }
        }
    }

    /** "One CAN SING a ROW, if he is FREE, of its PART, and all its NOTES are in his range." */
    private static void allNotesAreInHisRange() {
        ValleyMass x = Check.told("north bass 5 9 1;south bass 5 10 1;neutral bass 4 9 1;north bass 7 7 1;"
            + "south alto 0 48 1;piece;bass 1 5 9;piece;bass 1 5 10;piece;bass 1 9 4 5;piece;bass 1 7;"
            + "piece;bass 1 0 48;");
        C.due("8: 0 is all that he has", 1, Check.told("north alto 0 0 1;piece;alto 1 0;").able(0, 1));
        C.due("8: 48 is all that he has", 1, Check.told("north alto 48 48 1;piece;alto 1 48;").able(0, 1));
        C.due("8: both edges", 7, x.able(0, 3));
        C.due("8: one above", 2, x.able(1, 3));
        C.due("8: one below", 4, x.able(2, 3));
        C.due("8: one note for all", 15, x.able(3, 3));
        C.due("8: of another part", 0, x.able(3, 1));
        C.due("8: nobody", 0, x.able(4, 3));
        x.catches(0);
        x.fall(2);
        C.due("8: who is free", 2, x.able(0, 3));
        x.release(0);
        C.due("8: who is let go", 3, x.able(0, 3));
        C.due("5: can be sung", 11, x.count(8));
    }

    /** "A PIECE CAN BE SUNG, if for each of its ROWS as many as NEED CAN SING it". */
    private static void asManyAsNeed() {
        for (int need = 1; need <= 4; need++) {
            for (int many = 0; many <= 5; many++) {
                ValleyMass x = Check.told("north bass 0 9 1;".repeat(many) + "north alto 0 9 1;piece;alto 1 1;bass "
                    + need + " 5;");
                C.due("5: " + many + " for " + need, many >= need ? 1 : 0, x.count(8));
                C.due("36: " + many + " for " + need, Math.max(0, need - many), x.lacking(0, 3));
                C.due("16: " + many + " for " + need, many < need ? -1 : Math.min(0, many - need), x.spare(0));
            }
        }
    }

    /** "(of no ROWS: it can't)": each question about such a piece. */
    private static void ofNoRows() {
        ValleyMass x = Check.told("north bass 0 48 1;south bass 0 48 1;piece;");
        C.due("5: can't be sung", 0, x.count(8));
        C.due("15: moved", -1, x.moved(0));
        C.due("16: spare", -1, x.spare(0));
        C.due("18: ransom", -1, x.ransom(0));
        C.due("22: luck", 0, x.luck(0, 0, 0));
        C.due("22: luck", 1, x.luck(0, 0, 1));
        C.due("23: codes", 1, x.codes(0, 12));
        C.due("24: slips", 0, x.slips(0, 1));
        C.due("24: slips", -1, x.slips(0, 2));
        C.due("25: hear", -1, x.hear(0, 3, 0, 1));
        C.due("30: cast", -1, x.cast(0, 0));
        C.due("30: skills", -1, x.cast(0, 1));
        C.due("31: transposed", -99, x.transposed(0));
        C.due("32: evening", 0, x.evening());
        C.due("37: widen", -1, x.widen(0, 0));
        C.due("37: widen", -1, x.widen(0, 1));
        C.due("39: casts", 0, x.casts(0));
        C.due("43: lost", 0, x.lost(0));
        C.due("17: keys", 0, x.keys());
        x.catches(0);
        x.catches(1);
        C.due("18: ransom", -1, x.ransom(0));
        C.due("38: bargain", -1, x.bargain());
    }

    // ---- moved

    private static void moved(String singers, String rows, int due) {
        C.due("15: " + singers + rows, due, Check.told(singers + "piece;" + rows).moved(0));
    }

    /** "the fewest NOTES of its ROWS to be moved by 12 up or down so that it CAN BE SUNG". */
    private static void movedByTwelve() {
        String one = "north bass 20 25 1;";
        moved(one, "bass 1 20 25;", 0);
        moved(one, "bass 1 8 25;", 1);
        moved(one, "bass 1 7 25;", -1);
        moved(one, "bass 1 13;", 1);
        moved(one, "bass 1 14;", -1);
        moved(one, "bass 1 19;", -1);
        moved(one, "bass 1 26;", -1);
        moved(one, "bass 1 31;", -1);
        moved(one, "bass 1 32;", 1);
        moved(one, "bass 1 37;", 1);
        moved(one, "bass 1 38;", -1);
        moved(one, "bass 1 8 13 32 37 22;", 4);
        moved(one, "bass 1 8;alto 1 8;", -1);
        moved("", "bass 1 8;", -1);
        moved("north bass 0 0 1;", "bass 1 12;", 1);
        moved("north bass 12 12 1;", "bass 1 0;", 1);
        moved("north bass 48 48 1;", "bass 1 36;", 1);
        moved("north bass 36 36 1;", "bass 1 48;", 1);
    }

    /** "a NOTE may be moved once". */
    private static void aNoteIsMovedOnce() {
        moved("north bass 24 30 1;", "bass 1 0;", -1);
        moved("north bass 24 30 1;", "bass 1 12;", 1);
        moved("north bass 0 5 1;", "bass 1 24;", -1);
        moved("north bass 0 5 1;", "bass 1 12;", 1);
    }

    /** "(as many SINGERS of the PART as NEED must have all NOTES then". */
    private static void movedForAsManyAsNeed() {
        String two = "north bass 10 20 1;south bass 12 22 1;";
        moved(two, "bass 1 10;", 0);
        moved(two, "bass 2 10;", -1);
        moved(two, "bass 2 12;", 0);
        moved(two, "bass 2 21;", -1);
        moved(two, "bass 2 24;", 1);
        moved(two, "bass 1 22 10;", 1);
        moved(two, "bass 3 15;", -1);
        // The one needs fewer moves than the other, or alone can be helped.
        moved(two, "bass 1 8 10;", 1);
        moved(two, "bass 1 8 9 10;", 3);
        moved(two, "bass 1 22 21 10;", 1);
        ValleyMass x = Check.told(two + "piece;bass 1 22 21 10;");
        x.catches(1);
        C.due("15: by who is free", -1, x.moved(0));
        // More of the same range than NEED.
        moved("north bass 10 20 1;".repeat(3), "bass 1 8 15;", 1);
        moved("north bass 10 20 1;".repeat(3), "bass 2 8 15;", 1);
        // The two who have most in common are not the first two.
        moved("north bass 0 10 1;north bass 9 30 1;north bass 12 30 1;", "bass 2 30 29 28 27;", 0);
        moved("north bass 0 10 1;north bass 0 40 1;north bass 18 40 1;", "bass 2 6 7 8 20;", 1);
    }

    private static void allNotesMoved() {
        moved("north soprano 12 12 1;north alto 12 12 1;north tenor 12 12 1;north bass 12 12 1;",
            ALL_NOTES.substring(6), 48);
        moved("north soprano 12 12 1;north alto 12 12 1;north tenor 12 12 1;north bass 0 12 1;",
            ALL_NOTES.substring(6), 36);
        moved("north soprano 12 12 1;north alto 12 12 1;north tenor 12 12 1;north bass 13 13 1;",
            ALL_NOTES.substring(6), -1);
    }

    // ---- who must not fall

    /** "(the fewest of those who CAN SING a ROW less its NEED; none, if it can't)". */
    private static void spare() {
        C.due("16: all but one", 13, Check.told("north bass 0 9 1;".repeat(14) + "piece;bass 1 5;").spare(0));
        ValleyMass x = Check.told("north bass 0 9 1;".repeat(5) + "north alto 0 9 1;".repeat(4)
            + "piece;bass 2 5;alto 3 5;piece;bass 4 5;alto 1 5;piece;tenor 1 5;bass 1 5;");
        C.due("16: the altos", 1, x.spare(0));
        C.due("16: the basses", 1, x.spare(1));
        C.due("16: no tenor", -1, x.spare(2));
        x.fall(0);
        C.due("16: the basses", 0, x.spare(1));
        C.due("16: the altos", 1, x.spare(0));
        x.catches(1);
        C.due("16: it can't", -1, x.spare(1));
        C.due("16: as many of both", 1, x.spare(0));
    }

    /** "who of those that are FREE alone can't be lost, that as many PIECES as now CAN BE SUNG". */
    private static void keys() {
        ValleyMass x = Check.told("north bass 0 9 1;north bass 0 9 1;south alto 0 9 1;south alto 5 9 1;"
            + "piece;bass 2 5;piece;alto 1 4;piece;alto 1 6;piece;alto 3 6;");
        C.due("17: both basses, and who sings low", 7, x.keys());
        x.catches(3);
        C.due("17: the same", 7, x.keys());
        x.catches(0);
        C.due("17: the other bass alone is no key", 4, x.keys());
        x.catches(2);
        C.due("17: nothing can be sung, so nothing is lost", 0, x.keys());
        x.release(3);
        C.due("17: the other alto", 8, x.keys());
        ValleyMass all = Check.told("north bass 0 9 1;".repeat(13) + "north alto 0 9 1;piece;alto 1 5;piece;bass 4 5;");
        C.due("17: the fourteenth", 1 << 13, all.keys());
    }

    // ---- exchanges

    /** "the fewest EXCHANGES by which it CAN BE SUNG (0, if it can) .. none". */
    private static void ransom() {
        String four = "north bass 0 9 1;south bass 0 9 1;neutral bass 0 9 1;north bass 0 9 1;"
            + "piece;bass 1 5;piece;bass 3 5;piece;bass 4 5;";
        ValleyMass x = Check.told(four);
        C.due("18: it can", 0, x.ransom(2));
        x.catches(0);
        C.due("18: it can't, and nobody of the south is caught", -1, x.ransom(2));
        C.due("18: it can", 0, x.ransom(1));
        x.catches(1);
        C.due("18: both", 3, x.ransom(2));
        C.due("18: both", 3, x.ransom(1));
        C.due("18: it can", 0, x.ransom(0));
        x.catches(2);
        C.due("18: a neutral one is not exchanged", -1, x.ransom(2));
        C.due("18: without him", 3, x.ransom(1));
        x.catches(3);
        C.due("18: one of the north and one of the south", 3, x.ransom(0));
        C.due("18: the south has no second one", -1, x.ransom(1));
        C.due("18: nothing changes", 15, x.count(6));
        ValleyMass y = Check.told(four);
        y.catches(0);
        y.fall(1);
        C.due("18: a fallen one is not exchanged", -1, y.ransom(2));
    }

    /** "(of as few the least as bits)". */
    private static void ransomOfAsFewTheLeast() {
        ValleyMass x = Check.told("south bass 0 9 1;south bass 0 9 1;north alto 0 9 1;north alto 0 9 1;"
            + "south bass 5 9 1;piece;bass 1 5;piece;bass 1 4;piece;alto 1 5;piece;bass 2 6;alto 2 6;");
        for (int i = 0; i < 5; i++) {
            x.catches(i);
        }
        C.due("18: 0 and 2", 5, x.ransom(0));
        C.due("18: two exchanges", 15, x.ransom(3));
        x.release(0);
        x.fall(0);
        C.due("18: 1 and 2", 6, x.ransom(1));
        x.release(1);
        x.fall(1);
        C.due("18: 4 and 2", 20, x.ransom(0));
        C.due("18: 4 is no help", -1, x.ransom(1));
        C.due("18: 4 and 2 for the alto", 20, x.ransom(2));
        // Fewer exchanges are better than lesser bits.
        ValleyMass y = Check.told("north bass 0 1 1;south bass 0 1 1;north bass 0 1 1;south bass 0 9 1;"
            + "piece;bass 1 5;");
        for (int i = 0; i < 4; i++) {
            y.catches(i);
        }
        C.due("18: one exchange, with 3", 9, y.ransom(0));
    }

    private static void ransomOfMany() {
        ValleyMass x = Check.told("north bass 0 9 1;".repeat(7) + "south bass 0 9 1;".repeat(7)
            + "piece;bass 1 5;piece;bass 4 5;piece;bass 4 5;alto 1 1;");
        for (int i = 0; i < 14; i++) {
            x.catches(i);
        }
        C.due("18: the first of each side", 1 | 1 << 7, x.ransom(0));
        C.due("18: the first two of each side", 3 | 3 << 7, x.ransom(1));
        C.due("18: no alto", -1, x.ransom(2));
        // Six of each are needed: four of each part with four of the other side.
        ValleyMass y = Check.told("north bass 0 9 1;".repeat(4) + "north alto 0 9 1;".repeat(3)
            + "south tenor 0 9 1;".repeat(4) + "south soprano 0 9 1;".repeat(3)
            + "piece;bass 4 5;alto 3 5;tenor 4 5;soprano 3 5;piece;bass 4 5;alto 2 5;tenor 1 5;");
        for (int i = 0; i < 14; i++) {
            y.catches(i);
        }
        C.due("18: all of them", 16383, y.ransom(0));
        C.due("18: six of each", 63 | 63 << 7, y.ransom(1));
    }

    /** "the two PIECES which CAN both BE SUNG at once by unlike SINGERS (the first couple); none". */
    private static void duet() {
        String two = "north bass 0 9 1;south bass 5 9 1;";
        C.due("21: by one alone", -1, Check.told("north bass 0 9 1;piece;bass 1 5;piece;bass 1 5;").duet());
        C.due("21: by two", 1, Check.told(two + "piece;bass 1 5;piece;bass 1 5;").duet());
        C.due("21: one has no choice", 1, Check.told(two + "piece;bass 1 5;piece;bass 1 4;").duet());
        C.due("21: both want the same one", -1, Check.told(two + "piece;bass 1 3;piece;bass 1 4;").duet());
        C.due("21: one piece alone", -1, Check.told(two + "piece;bass 2 5;").duet());
        C.due("21: no rows", -1, Check.told(two + "piece;bass 2 5;piece;").duet());
        C.due("21: other parts", 1, Check.told(two + "north alto 0 9 1;piece;bass 2 5;piece;alto 1 5;").duet());
        C.due("21: the last couple", 34, Check.told(two + "piece;piece;piece;piece;bass 1 5;piece;bass 1 5;").duet());
        C.due("21: the lesser one first", 13, Check.told(two
            + "piece;bass 2 5;piece;bass 1 5;piece;bass 2 5;piece;bass 1 5;piece;bass 1 5;").duet());
        C.due("21: 0 and 4 ahead of 1 and 2", 4, Check.told("north bass 0 9 1;".repeat(3)
            + "piece;bass 2 5;piece;piece;piece;bass 2 5;piece;bass 1 5;").duet());
    }

    // ---- chances and codes

    private static void luck(ValleyMass x, int piece, int fall, int upper, int lower) {
        C.due("22: upper, " + fall + " fall", upper, x.luck(piece, fall, 0));
        C.due("22: lower, " + fall + " fall", lower, x.luck(piece, fall, 1));
    }

    /** "so many (0 to 14) fall .. in lowest terms (0 by 1, if not so many are FREE)". */
    private static void luck() {
        ValleyMass x = Check.told("north bass 0 9 1;south bass 0 9 1;south alto 0 9 1;piece;bass 1 5;piece;tenor 1 5;");
        luck(x, 0, 0, 1, 1);
        luck(x, 0, 1, 1, 1);
        luck(x, 0, 2, 2, 3);
        luck(x, 0, 3, 0, 1);
        luck(x, 0, 4, 0, 1);
        luck(x, 0, 14, 0, 1);
        luck(x, 1, 0, 0, 1);
        x.catches(2);
        luck(x, 0, 1, 1, 1);
        luck(x, 0, 2, 0, 1);
        luck(x, 0, 3, 0, 1);
        x.fall(0);
        luck(x, 0, 0, 1, 1);
        luck(x, 0, 1, 0, 1);
        x.catches(1);
        luck(x, 0, 0, 0, 1);
        luck(x, 0, 1, 0, 1);
    }

    /** Of fourteen who are free, of all sides. */
    private static void luckOfFourteen() {
        ValleyMass x = Check.told("north bass 0 9 1;south bass 0 9 1;" + "neutral alto 0 9 1;".repeat(12)
            + "piece;bass 2 5;piece;bass 1 5;piece;alto 1 5;piece;bass 1 5;alto 4 5;");
        luck(x, 0, 0, 1, 1);
        luck(x, 0, 3, 55, 91);
        luck(x, 0, 7, 3, 13);
        luck(x, 0, 12, 1, 91);
        luck(x, 0, 13, 0, 1);
        luck(x, 1, 13, 1, 7);
        luck(x, 1, 14, 0, 1);
        luck(x, 2, 11, 1, 1);
        // Twelve fall: not all altos, in 90 of 91 ways.
        luck(x, 2, 12, 90, 91);
        luck(x, 2, 13, 6, 7);
        // Eight of twelve altos at most, and not both basses: C(12,9) no, 2 C(12,8), C(12,7).
        luck(x, 3, 9, 2 * 495, 2002, true);
        luck(x, 3, 8, 495 + 2 * 792, 3003, true);
        luck(x, 3, 10, 0, 1);
    }

    private static void luck(ValleyMass x, int piece, int fall, int upper, int lower, boolean toBeCut) {
        int common = BigInteger.valueOf(upper).gcd(BigInteger.valueOf(lower)).intValueExact();
        C.due("22: to be cut", toBeCut, common > 1);
        luck(x, piece, fall, upper / common, lower / common);
    }

    /** "in how many ways at most so many (0 to 12) of all its NOTES can be 1 higher or 1 lower". */
    private static void codes() {
        ValleyMass x = Check.told(ALL_NOTES + "piece;bass 1 48;piece;bass 1" + TWELVE + "piece;alto 1 0;bass 1"
            + TWELVE + "piece;");
        int[] notes = {48, 1, 12, 13, 0};
        for (int piece = 0; piece < 5; piece++) {
            for (int slips = 0; slips <= 12; slips++) {
                C.due("23: " + slips + " of " + notes[piece], ways(notes[piece], slips), x.codes(piece, slips));
            }
        }
        C.due("23: none, too", 1, x.codes(0, 0));
        C.due("23: three ways of a note of 48", 3, x.codes(1, 1));
        C.due("23: all of twelve", 531441, x.codes(2, 12));
        C.due("23: all but all of thirteen", 1594323 - 8192, x.codes(3, 12));
        C.due("23: beyond an int", true, x.codes(0, 12) > 285000000000000L);
        ValleyMass nobody = Check.told("piece;bass 4 1 2;");
        C.due("23: whoever can sing it", 9, nobody.codes(0, 2));
    }

    private static long ways(int notes, int slips) {
        BigInteger sum = BigInteger.ZERO;
        BigInteger choose = BigInteger.ONE;
        for (int k = 0; k <= Math.min(notes, slips); k++) {
            sum = sum.add(choose.shiftLeft(k));
            choose = choose.multiply(BigInteger.valueOf(notes - k)).divide(BigInteger.valueOf(k + 1));
        }
        return sum.longValueExact();
    }

    /** "the fewest slips by which there are so many ways or more (0 to 1,000,000,000); none". */
    private static void slips() {
        ValleyMass x = Check.told(ALL_NOTES + "piece;bass 1 48;piece;bass 1" + TWELVE + "piece;alto 1 0;bass 1"
            + TWELVE + "piece;");
        int[] notes = {48, 1, 12, 13, 0};
        for (int piece = 0; piece < 5; piece++) {
            C.due("24: no way is asked for", 0, x.slips(piece, 0));
            C.due("24: one way", 0, x.slips(piece, 1));
            for (int slips = 1; slips <= Math.min(12, notes[piece]); slips++) {
                long most = ways(notes[piece], slips);
                if (most < 1000000000) {
                    C.due("24: " + most + " of " + notes[piece], slips, x.slips(piece, (int) most));
                    boolean none = slips == 12 || slips == notes[piece];
                    C.due("24: one more than " + most, none ? -1 : slips + 1, x.slips(piece, (int) most + 1));
                }
            }
        }
        C.due("24: the most of 48", 7, x.slips(0, 1000000000));
        C.due("24: of one", -1, x.slips(1, 1000000000));
        C.due("24: of twelve", -1, x.slips(2, 1000000000));
        C.due("24: of none", -1, x.slips(4, 2));
    }

    // ---- heard

    private static final String CHOIR = "north bass 5 20 1;south bass 10 20 1;neutral alto 0 48 1;"
        + "piece;bass 1 10 12;piece;bass 1 6;alto 1 3 48;";

    /** "HEARD (at most 8)"; "NONE (STATUS 2): there are 8". */
    private static void heardAtMostEight() {
        ValleyMass x = Check.told(CHOIR);
        for (int i = 1; i <= 8; i++) {
            C.due("25: so much is heard", i, x.hear(0, 3, i % 2, 9));
        }
        C.due("25: there are 8", -1, x.hear(0, 3, 0, 9));
        C.due("25: STATUS 2", 1, x.count(14));
        C.due("25: there are 8", -1, x.hear(0, 0, 0, 99));
        C.due("25: once for each call", 2, x.count(14));
        C.due("25: 8 still", 8, x.count(10));
        x.forget();
        C.due("27: forgotten", 0, x.count(10));
        C.due("27: STATUS stays", 2, x.count(14));
        x.forget();
        C.due("27: nothing to forget", 0, x.count(10));
        C.due("25: the first again", 1, x.hear(0, 3, 0, 9));
        C.due("25: the same once more", 2, x.hear(0, 3, 0, 9));
    }

    /** "no such ROW, NOTE of it, not 0 to 60". */
    private static void heardSoHigh() {
        ValleyMass x = Check.told(CHOIR);
        int refused = 0;
        int[][] wrong = {{0, 0, 0, 9}, {0, 1, 0, 9}, {1, 2, 0, 9}, {0, 3, 2, 9}, {0, 3, -1, 9}, {0, 3, -2, 9},
            {1, 3, 1, 9}, {0, 3, 12, 9}, {0, 3, Integer.MAX_VALUE, 9}, {0, 3, Integer.MIN_VALUE, 9},
            {0, 3, 0, -1}, {0, 3, 0, 61}, {0, 3, 0, Integer.MIN_VALUE}, {0, 3, 0, Integer.MAX_VALUE}};
        for (int[] w : wrong) {
            C.due("25: refused", -1, x.hear(w[0], w[1], w[2], w[3]));
            refused++;
            C.due("25: STATUS 2", refused, x.count(14));
            C.due("25: nothing is heard", 0, x.count(10));
        }
        C.due("25: 0", 1, x.hear(0, 3, 0, 0));
        C.due("25: 60", 2, x.hear(0, 3, 1, 60));
        C.due("25: the last note", 3, x.hear(1, 1, 1, 48));
        C.due("25: no more was refused", refused, x.count(14));
        C.due("25: no act was refused", 0, x.count(13));
    }

    private static void flat(ValleyMass x, int many, int first, int nobody) {
        C.due("26: how many", many, x.flat(0));
        C.due("26: the first", first, x.flat(1));
        C.due("26: with nobody", nobody, x.flat(2));
    }

    /** "by how much (1 to 5)". */
    private static void flatByOneToFive() {
        for (int by = -1; by <= 7; by++) {
            ValleyMass x = Check.told(CHOIR);
            x.hear(0, 3, 0, 10 - by);
            if (by == 0) {
                // As told: whoever sings no bass may be flat by anything.
                flat(x, 5, 21, 1);
            } else if (by >= 1 && by <= 5) {
                flat(x, 2, by, 0);
            } else {
                flat(x, 0, -1, 0);
            }
        }
        ValleyMass last = Check.told("north bass 0 9 1;".repeat(13) + "south alto 0 9 1;piece;alto 1 7;");
        last.hear(0, 1, 0, 2);
        flat(last, 1, 135, 0);
    }

    /** "in ROWS that he CAN SING each NOTE HEARD is lower by that, in others as told". */
    private static void flatInAnyRow() {
        ValleyMass x = Check.told(CHOIR);
        x.hear(0, 3, 0, 8);
        x.hear(0, 3, 1, 10);
        flat(x, 2, 2, 0);
        x.hear(1, 3, 0, 6);
        // Bass 0 sings that row too, so he is it not; bass 1 doesn't reach it.
        flat(x, 1, 12, 0);
        x.forget();
        x.hear(0, 3, 0, 8);
        x.hear(1, 3, 0, 4);
        flat(x, 1, 2, 0);
        x.catches(0);
        flat(x, 0, -1, 0);
        x.release(0);
        x.hear(1, 1, 0, 3);
        flat(x, 1, 2, 0);
        x.hear(1, 1, 1, 47);
        flat(x, 0, -1, 0);
        x.forget();
        // The same note heard twice, and not alike.
        x.hear(0, 3, 0, 8);
        x.hear(0, 3, 0, 8);
        flat(x, 2, 2, 0);
        x.hear(0, 3, 0, 9);
        flat(x, 0, -1, 0);
    }

    /** With nothing HEARD all of it is so, whoever is flat. */
    private static void flatWithNothingHeard() {
        ValleyMass x = Check.told(CHOIR);
        flat(x, 15, 1, 1);
        x.fall(0);
        x.catches(1);
        flat(x, 15, 1, 1);
        x.hear(0, 3, 0, 10);
        flat(x, 15, 1, 1);
        x.forget();
        flat(Check.told("piece;bass 1 1;"), 0, -1, 1);
    }

    // ---- casts

    /** "of most SKILL (of like ones the least numbers) .. none, if it can't be sung". */
    private static void cast() {
        ValleyMass x = Check.told("north bass 0 9 0;south bass 0 9 9;neutral bass 0 9 9;north bass 0 9 9;"
            + "south alto 0 9 0;north bass 0 9 0;piece;bass 1 5;piece;bass 2 5;alto 1 5;piece;bass 4 5;piece;alto 2 5;");
        C.due("30: of like ones the least", 2, x.cast(0, 0));
        C.due("30: skill", 9, x.cast(0, 1));
        C.due("30: of each row", 2 | 4 | 16, x.cast(1, 0));
        C.due("30: skills", 18, x.cast(1, 1));
        C.due("30: four", 15, x.cast(2, 0));
        C.due("30: skills", 27, x.cast(2, 1));
        C.due("30: it can't be sung", -1, x.cast(3, 0));
        C.due("30: it can't be sung", -1, x.cast(3, 1));
        x.fall(0);
        C.due("30: the last one, too", 2 | 4 | 8 | 32, x.cast(2, 0));
        x.catches(1);
        C.due("30: three are left", -1, x.cast(2, 0));
        C.due("30: the next ones", 4 | 8 | 16, x.cast(1, 0));
        C.due("30: skill 0 is a skill", 0, Check.told("north bass 0 9 0;piece;bass 1 5;").cast(0, 1));
        C.due("30: skill 0 is a skill", 1, Check.told("north bass 0 9 0;piece;bass 1 5;").cast(0, 0));
        // The most skilled can't sing it.
        C.due("30: who can", 1, Check.told("north bass 0 9 1;north bass 0 4 9;piece;bass 1 5;").cast(0, 0));
    }

    private static void transposed(String singers, String rows, int due) {
        C.due("31: " + singers + rows, due, Check.told(singers + "piece;" + rows).transposed(0));
    }

    /** "by so many (-12 to 12) .. (least without sign; of like ones the one below 0); none". */
    private static void transposed() {
        String one = "north bass 20 25 1;";
        transposed(one, "bass 1 20 25;", 0);
        transposed(one, "bass 1 19 24;", 1);
        transposed(one, "bass 1 21 26;", -1);
        transposed(one, "bass 1 8;", 12);
        transposed(one, "bass 1 7;", -99);
        transposed(one, "bass 1 37;", -12);
        transposed(one, "bass 1 38;", -99);
        transposed(one, "bass 1 20 26;", -99);
        String two = "north bass 10 10 1;north bass 20 20 1;";
        transposed(two, "bass 1 15;", -5);
        transposed(two, "bass 1 14;", -4);
        transposed(two, "bass 1 16;", 4);
        transposed(two, "bass 2 15;", -99);
        // All rows by as many.
        transposed(one + "south alto 30 40 1;", "bass 1 18;alto 1 31;", 2);
        transposed(one + "south alto 30 31 1;", "bass 1 18;alto 1 30;", -99);
        ValleyMass x = Check.told(two + "piece;bass 1 15;");
        x.fall(0);
        C.due("31: by who is free", 5, x.transposed(0));
        x.fall(1);
        C.due("31: nobody", -99, x.transposed(0));
    }

    /** "(none below 0 or above 48 then)". */
    private static void noneBelow0OrAbove48() {
        String all = "north bass 0 48 1;north tenor 5 5 1;north tenor 15 15 1;";
        transposed(all, "tenor 1 10;bass 1 5;", -5);
        transposed(all, "tenor 1 10;bass 1 4;", 5);
        transposed(all, "tenor 1 10;bass 1 4 43;", 5);
        transposed(all, "tenor 1 10;bass 1 4 44;", -99);
        transposed(all, "tenor 1 10;bass 1 5 44;", -5);
        transposed(all, "tenor 1 17;bass 1 0 48;", -99);
        transposed("north bass 0 0 1;", "bass 1 12;", -12);
        transposed("north bass 48 48 1;", "bass 1 36;", 12);
    }

    /** "the most that CAN all BE SUNG at once by unlike SINGERS; of like ones the least as bits". */
    private static void anEvening() {
        String pieces = "piece;bass 1 5;".repeat(5);
        for (int many = 0; many <= 6; many++) {
            ValleyMass x = Check.told("north bass 0 9 1;".repeat(many) + pieces);
            C.due("32: " + many + " basses", (1 << Math.min(5, many)) - 1, x.evening());
        }
        // One of two, or two of one: the more.
        C.due("32: the more", 6, Check.told("north bass 0 9 1;".repeat(2)
            + "piece;bass 2 5;piece;bass 1 5;piece;bass 1 5;").evening());
        C.due("32: of like ones", 3, Check.told("north bass 0 9 1;".repeat(3)
            + "piece;bass 2 5;piece;bass 1 5;piece;bass 1 5;piece;bass 2 5;").evening());
        C.due("32: all want the same one", 1, Check.told("north bass 0 9 1;north bass 5 9 1;"
            + "piece;bass 1 1;piece;bass 1 2;").evening());
        C.due("32: one has no choice", 3, Check.told("north bass 0 9 1;north bass 5 9 1;"
            + "piece;bass 1 5;piece;bass 1 2;").evening());
        // Any two of the three fit, but not all.
        C.due("32: two of three", 3, Check.told("north bass 0 9 1;north bass 0 9 1;"
            + "piece;bass 1 5;piece;bass 1 5;piece;bass 1 5;").evening());
        ValleyMass x = Check.told("north bass 0 9 1;south alto 0 9 1;piece;bass 1 5;alto 1 5;piece;alto 1 5;piece;bass 1 5;");
        C.due("32: two parts", 6, x.evening());
        x.catches(0);
        C.due("32: one part", 2, x.evening());
        x.catches(1);
        C.due("32: nobody", 0, x.evening());
    }

    // ---- more of who sings

    /** "all other ones of his PART, however they are, whose range holds his". */
    private static void standIns() {
        ValleyMass x = Check.told("north bass 5 9 1;south bass 5 9 1;neutral bass 4 9 1;north bass 5 10 1;"
            + "south bass 6 9 1;north bass 5 8 1;south alto 0 48 1;north bass 0 48 1;");
        C.due("33: like and wider ranges", 2 | 4 | 8 | 128, x.standIns(0));
        C.due("33: not himself", 0, x.standIns(7));
        C.due("33: nobody else", 0, Check.told("north soprano 0 0 1;").standIns(0));
        C.due("33: nobody of the text before", 0, nobodyOfTheTextBefore().standIns(0));
        C.due("33: no other alto", 0, x.standIns(6));
        C.due("33: of the narrower", 1 | 2 | 4 | 8 | 128, x.standIns(4));
        for (int i = 1; i < 8; i++) {
            C.due("33: any", true, i % 2 == 0 ? x.fall(i) : x.catches(i));
        }
        C.due("33: however they are", 2 | 4 | 8 | 128, x.standIns(0));
        x.fall(0);
        C.due("33: however he is", 2 | 4 | 8 | 128, x.standIns(0));
    }

    private static ValleyMass nobodyOfTheTextBefore() {
        ValleyMass x = Check.told("north bass 0 48 1;".repeat(14));
        Check.tell(x, "north bass 0 48 1;".repeat(14));
        Check.tell(x, "north bass 0 0 1;");
        return x;
    }

    /** "how many FREE ones it has of a PART". */
    private static void voices() {
        ValleyMass x = Check.told("north bass 5 9 1;".repeat(13) + "neutral soprano 5 9 1;");
        C.due("35: thirteen", 13, x.voices(0, 3));
        C.due("35: one", 1, x.voices(2, 0));
        C.due("35: none", 0, x.voices(1, 3) + x.voices(0, 0) + x.voices(2, 3));
        x.catches(0);
        x.fall(1);
        x.fall(13);
        C.due("35: who is free", 11, x.voices(0, 3));
        C.due("35: none", 0, x.voices(2, 0));
    }

    /** "by how many fewer CAN SING it than NEED (0, if not fewer)". */
    private static void lacking() {
        ValleyMass x = Check.told("north bass 5 9 1;".repeat(3) + "piece;bass 4 5;piece;bass 3 5;piece;bass 2 5;"
            + "alto 4 5;piece;bass 4 4;");
        C.due("36: one", 1, x.lacking(0, 3));
        C.due("36: not fewer", 0, x.lacking(1, 3));
        C.due("36: more", 0, x.lacking(2, 3));
        C.due("36: all", 4, x.lacking(2, 1));
        C.due("36: nobody reaches it", 4, x.lacking(3, 3));
        x.catches(0);
        C.due("36: who is free", 1, x.lacking(1, 3));
    }

    private static void widen(ValleyMass x, int piece, int by, int who) {
        C.due("37: half tones", by, x.widen(piece, 0));
        C.due("37: who", who, x.widen(piece, 1));
    }

    /** "the fewest half tones .. (what 0; 0: it can be sung), who (1; NONE: it can be sung); NONE: none". */
    private static void widen() {
        ValleyMass x = Check.told("north bass 10 20 1;piece;bass 1 10 20;piece;bass 1 9 20;piece;bass 1 10 21;"
            + "piece;bass 1 0 48;piece;bass 2 15;");
        widen(x, 0, 0, -1);
        widen(x, 1, 1, 0);
        widen(x, 2, 1, 0);
        widen(x, 3, 10 + 28, 0);
        widen(x, 4, -1, -1);
        x.catches(0);
        widen(x, 0, -1, -1);
        widen(x, 1, -1, -1);
        ValleyMass two = Check.told("north bass 10 20 1;north alto 10 20 1;piece;bass 1 9;alto 1 10;piece;bass 1 9;alto 1 9;"
            + "piece;bass 1 10;alto 1 30;piece;tenor 1 9;piece;bass 1 48;");
        widen(two, 0, 1, 0);
        widen(two, 1, -1, -1);
        widen(two, 2, 10, 1);
        widen(two, 3, -1, -1);
        widen(two, 4, 28, 0);
        // One of need 2 is there, another must be wider; with two lacking nobody alone is enough.
        ValleyMass need = Check.told("north bass 10 20 1;north bass 12 20 1;north bass 13 20 1;piece;bass 2 10;"
            + "piece;bass 3 10;piece;bass 3 12;");
        widen(need, 0, 2, 1);
        widen(need, 1, -1, -1);
        widen(need, 2, 1, 2);
    }

    /** "who (of like ones the least)". */
    private static void widenOfLikeOnesTheLeast() {
        ValleyMass x = Check.told("south bass 30 40 1;north bass 10 20 1;north bass 12 22 1;neutral bass 11 21 1;"
            + "piece;bass 1 9 22;");
        // 0: 21; 1: 1 and 2; 2: 3; 3: 2 and 1.
        widen(x, 0, 3, 1);
        x.fall(1);
        widen(x, 0, 3, 2);
        x.catches(2);
        widen(x, 0, 3, 3);
        x.catches(3);
        widen(x, 0, 21, 0);
        x.catches(0);
        widen(x, 0, -1, -1);
    }

    /** "by which most PIECES CAN BE SUNG, if more than now .. 100 by the one and the other; none". */
    private static void bargain() {
        ValleyMass x = Check.told("neutral bass 0 9 1;".repeat(9) + "south alto 0 9 1;south tenor 0 9 1;"
            + "north soprano 0 9 1;north tenor 0 9 1;south tenor 0 9 1;"
            + "piece;alto 1 5;piece;tenor 1 5;piece;soprano 1 5;");
        C.due("38: nobody is caught", -1, x.bargain());
        x.catches(9);
        x.catches(11);
        C.due("38: 11 and 9", 1109, x.bargain());
        x.catches(13);
        C.due("38: the alto more than the tenor", 1109, x.bargain());
        x.catches(12);
        x.catches(10);
        C.due("38: no tenor is left: 11 with 9, ahead of 11 with 10", 1109, x.bargain());
        x.release(11);
        C.due("38: both by 12 and 9", 1209, x.bargain());
        x.release(9);
        C.due("38: the tenor: 12 with 10", 1210, x.bargain());
        x.release(10);
        C.due("38: not more than now", -1, x.bargain());
        x.catches(11);
        C.due("38: the soprano", 1113, x.bargain());
        x.release(13);
        C.due("38: nobody of the south is caught", -1, x.bargain());
        C.due("38: 0 and 1", 1, bargainOfTwo("north", "south"));
        C.due("38: 1 and 0", 100, bargainOfTwo("south", "north"));
        C.due("38: two of the north", -1, bargainOfTwo("north", "north"));
        C.due("38: a neutral one", -1, bargainOfTwo("neutral", "south"));
        C.due("38: a neutral one", -1, bargainOfTwo("north", "neutral"));
    }

    private static int bargainOfTwo(String first, String second) {
        ValleyMass x = Check.told(first + " bass 0 9 1;" + second + " bass 0 9 1;piece;bass 2 5;");
        x.catches(0);
        x.catches(1);
        return x.bargain();
    }

    /** "in how many ways a PIECE can be given .. (0, if it can't be sung)". */
    private static void casts() {
        ValleyMass x = Check.told("north bass 0 9 1;".repeat(7) + "north alto 0 9 1;".repeat(7)
            + "piece;bass 1 5;piece;bass 4 5;piece;bass 4 5;alto 3 5;piece;bass 1 5;tenor 1 5;piece;");
        C.due("39: one of seven", 7, x.casts(0));
        C.due("39: four of seven", 35, x.casts(1));
        C.due("39: of both rows", 35 * 35, x.casts(2));
        C.due("39: no tenor", 0, x.casts(3));
        C.due("39: no rows", 0, x.casts(4));
        x.fall(0);
        x.fall(1);
        x.catches(2);
        C.due("39: all four", 1, x.casts(1));
        x.catches(3);
        C.due("39: too few", 0, x.casts(1));
        C.due("39: too few", 0, x.casts(2));
        ValleyMass all = Check.told("north bass 0 9 1;".repeat(14) + "piece;bass 4 5;");
        C.due("39: four of fourteen", 1001, all.casts(0));
    }

    /** "how many of all PIECES he CAN SING .. (0, if he isn't FREE)". */
    private static void rows() {
        ValleyMass x = Check.told("north bass 0 9 1;south alto 0 9 1;south alto 6 9 1;" + "piece;bass 1 5;alto 1 5;".repeat(5));
        C.due("45: one of each piece", 5, x.rows(0));
        C.due("45: one of each piece", 5, x.rows(1));
        C.due("45: none", 0, x.rows(2));
        x.catches(0);
        C.due("45: caught", 0, x.rows(0));
        x.release(0);
        C.due("45: free", 5, x.rows(0));
        x.fall(0);
        C.due("45: fallen", 0, x.rows(0));
        C.due("45: without pieces", 0, Check.told("north bass 0 9 1;").rows(0));
    }
}
