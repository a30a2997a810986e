import java.math.BigInteger;

/**
 * The edges that the document names for the days to come, for games and for wars by a seed: a
 * method for each sentence, with what it names on both sides of the edge.
 */
public final class EdgesOfForesightTest {
    private static final Check C = new Check("EdgesOfForesightTest");
    /** One bass of each side; a piece that needs both of them. */
    private static final String COUPLE = "north bass 0 9 5;south bass 0 9 3;piece;bass 2 5;";

    public static void main(String[] args) {
        peace();
        silent();
        silentNow();
        falls();
        held();
        lost();
        gone();
        nothingGoesByInTruth();
        gameOfNobody();
        gameWhoseFirstIsFire();
        gameWhoseFirstIsToHold();
        gameAsOnADay();
        asManyPieces();
        warsOfNoDays();
        drawsThatWrap();
        whoHasFallenHas();
        fallenInAll();
        eveningsInIt();
        withoutSingers();
        C.end();
    }

    /** The north holds until a day and fires then; the south holds. */
    private static ValleyMass until(int day, int every) {
        return Check.told(COUPLE + "every " + every + ";truce north day<" + day + ";truce south 1;");
    }

    private static ValleyMass behind(ValleyMass x, int days) {
        for (int left = days; left > 0; left -= 30) {
            x.days(Math.min(30, left));
        }
        return x;
    }

    /** "how many DAYS from now on (0 to 99) nobody falls". */
    private static void peace() {
        C.due("19: they fire at once", 0, Check.told("north bass 0 9 5;south bass 0 9 3;").peace());
        C.due("19: they fire on day 1", 1, until(1, 9).peace());
        C.due("19: day 97", 97, until(97, 9).peace());
        C.due("19: day 98", 98, until(98, 9).peace());
        C.due("19: day 99 is an evening", 99, until(99, 9).peace());
        C.due("19: day 99", 99, until(99, 8).peace());
        C.due("19: day 100", 99, until(100, 9).peace());
        C.due("19: never", 99, until(9999, 9).peace());
        C.due("19: from day 1 on", 98, behind(until(99, 8), 1).peace());
        C.due("19: from day 99 on", 0, behind(until(99, 8), 99).peace());
        C.due("19: all has been lost by then", 99, behind(until(99, 8), 100).peace());
        C.due("19: evenings on end", 99, Check.told(COUPLE + "every 1;").peace());
        C.due("19: day 1 is no evening", 1, Check.told(COUPLE + "every 2;").peace());
        C.due("19: nobody to fire at", 99, Check.told("neutral bass 0 9 5;neutral bass 0 9 3;").peace());
        C.due("19: a side of nobody fires still", 0, Check.told("north bass 0 9 5;").peace());
    }

    /** "the first DAY from now on (of 99) which is one of EVERY on which no PIECE CAN BE SUNG; none". */
    private static void silent() {
        C.due("20: never", -1, until(9999, 9).silent());
        C.due("20: lost on day 1, every 2", 2, until(1, 2).silent());
        C.due("20: lost on day 1, every 9", 9, until(1, 9).silent());
        C.due("20: lost on day 91", 99, behind(until(91, 9), 1).silent());
        // Day 98 is the 99th from day 0 on, and one of every 7.
        C.due("20: the 99th day", 98, until(97, 7).silent());
        C.due("20: that evening is sung", -1, until(98, 7).silent());
        // Day 99 is the 100th from day 0 on, and one of every 9.
        C.due("20: the 100th day", -1, until(98, 9).silent());
        C.due("20: from day 1 on", 99, behind(until(98, 9), 1).silent());
        C.due("20: evenings on end", -1, Check.told(COUPLE + "every 1;").silent());
        // Nobody falls, but nothing can ever be sung.
        ValleyMass x = Check.told("north bass 0 9 5;piece;bass 2 5;every 9;truce north 1;truce south 1;");
        C.due("20: on day 0", 0, x.silent());
        x.days(1);
        C.due("20: on day 9", 9, x.silent());
        x.days(8);
        C.due("20: on day 9", 9, x.silent());
        x.days(1);
        C.due("20: on day 18", 18, x.silent());
    }

    /** The DAY now is the first of the 99. */
    private static void silentNow() {
        ValleyMass x = Check.told(COUPLE + "every 3;truce north 1;truce south 1;");
        C.due("20: it can be sung", -1, x.silent());
        x.catches(1);
        C.due("20: now", 0, x.silent());
        x.days(1);
        C.due("20: the next", 3, x.silent());
        x.days(2);
        C.due("20: now", 3, x.silent());
        x.release(1);
        C.due("20: it can be sung again", -1, x.silent());
        ValleyMass none = Check.told("piece;piece;every 1;");
        none.days(30);
        C.due("20: pieces of no rows", 30, none.silent());
    }

    /** "how many will have fallen in so many DAYS (0 to 99) from now on". */
    private static void falls() {
        ValleyMass x = until(98, 9);
        C.due("34: in none", 0, x.falls(0));
        C.due("34: in one", 0, x.falls(1));
        C.due("34: in 98", 0, x.falls(98));
        C.due("34: in 99, on day 98", 1, x.falls(99));
        C.due("34: on day 99", 0, until(99, 8).falls(99));
        C.due("34: from day 1 on", 1, behind(until(99, 8), 1).falls(99));
        ValleyMass y = Check.told("north bass 0 9 5;".repeat(7) + "south bass 0 9 3;".repeat(7));
        for (int days = 0; days <= 99; days++) {
            C.due("34: two a day", Math.min(14, 2 * days), y.falls(days));
        }
        y.days(2);
        C.due("34: in none from now on", 0, y.falls(0));
        C.due("34: in one from now on", 2, y.falls(1));
        C.due("34: who is left", 10, y.falls(99));
        y.fall(13);
        C.due("34: who is left", 9, y.falls(99));
        y.catches(12);
        C.due("34: who is free", 8, y.falls(99));
    }

    /** "on how many of so many DAYS (0 to 99) from now on .. it HOLDS (also on evenings that are SUNG)". */
    private static void held() {
        ValleyMass x = until(98, 9);
        C.due("42: of none", 0, x.held(0, 0));
        C.due("42: of one", 1, x.held(0, 1));
        C.due("42: of 98", 98, x.held(0, 98));
        C.due("42: of 99", 98, x.held(0, 99));
        C.due("42: the south", 99, x.held(1, 99));
        behind(x, 90);
        C.due("42: from day 90 on", 8, x.held(0, 99));
        C.due("42: from day 90 on", 8, x.held(0, 8));
        C.due("42: from day 90 on", 7, x.held(0, 7));
        C.due("42: without a rule", 0, Check.told(COUPLE).held(0, 99));
        C.due("42: of evenings alone", 99, Check.told(COUPLE + "every 1;truce north 1;").held(0, 99));
        C.due("42: of evenings alone", 0, Check.told(COUPLE + "every 1;truce north 0;").held(0, 99));
        // The south holds as long as it has somebody: on days 0 and 1, on which its only one falls.
        ValleyMass own = Check.told("north bass 0 9 5;south bass 0 9 3;truce north day<1;truce south own;");
        C.due("42: as each day begins", 2, own.held(1, 99));
    }

    /** "LOST is a PIECE on the first DAY from now on (of 99) on which it can't be sung .. none". */
    private static void lost() {
        C.due("43: behind day 1", 2, Check.told(COUPLE + "every 2;").lost(0));
        C.due("43: never", -1, until(9999, 9).lost(0));
        C.due("43: as day 98 begins, the 99th", 98, until(97, 9).lost(0));
        C.due("43: as day 99 begins, the 100th", -1, until(98, 9).lost(0));
        C.due("43: from day 1 on", 99, behind(until(98, 9), 1).lost(0));
        ValleyMass x = until(9999, 9);
        x.days(7);
        x.catches(0);
        C.due("43: now", 7, x.lost(0));
        C.due("43: of no rows", 0, Check.told("piece;").lost(0));
        ValleyMass two = Check.told("north bass 0 9 5;south bass 0 9 3;piece;bass 1 5;piece;bass 2 5;every 9;"
            + "truce north day<3;truce south 1;");
        C.due("43: one is enough", -1, two.lost(0));
        C.due("43: both are needed", 4, two.lost(1));
    }

    /** "GONE is a SIDE on the first one on which nobody of it is FREE (both as a DAY begins); none". */
    private static void gone() {
        C.due("44: as day 98 begins, the 99th", 98, until(97, 9).gone(1));
        C.due("44: as day 99 begins, the 100th", -1, until(98, 9).gone(1));
        C.due("44: from day 1 on", 99, behind(until(98, 9), 1).gone(1));
        C.due("44: never", -1, until(97, 9).gone(0));
        C.due("44: nobody is neutral", 0, until(97, 9).gone(2));
        ValleyMass x = Check.told("north bass 0 9 5;south bass 0 9 3;neutral bass 0 9 1;");
        C.due("44: behind day 0", 1, x.gone(0));
        C.due("44: behind day 0", 1, x.gone(1));
        C.due("44: never", -1, x.gone(2));
        x.catches(2);
        C.due("44: caught, now", 0, x.gone(2));
        x.catches(0);
        C.due("44: caught, now", 0, x.gone(0));
        x.release(0);
        C.due("44: let go", 1, x.gone(0));
        x.days(1);
        C.due("44: now", 1, x.gone(0));
        x.days(5);
        C.due("44: now", 6, x.gone(0));
    }

    /** "if only DAYS go by": what is asked for changes nothing. */
    private static void nothingGoesByInTruth() {
        ValleyMass x = Check.told(COUPLE + "every 2;");
        x.hear(0, 3, 0, 5);
        String before = Check.allOf(x);
        for (int i = 0; i < 3; i++) {
            C.due("19: again", 1, x.peace());
            C.due("20: again", 2, x.silent());
            C.due("34: again", 2, x.falls(99));
            C.due("42: again", 0, x.held(0, 99));
            C.due("43: again", 2, x.lost(0));
            C.due("44: again", 2, x.gone(1));
            x.wars(5, 60, 0);
            x.game(5, 0);
            C.due("nothing changed", before, Check.allOf(x));
        }
        C.due("no acts", -1, x.undo());
    }

    // ---- games

    private static void rests(ValleyMass x, int much, int many, int first) {
        C.due("28: couples of " + much, many, x.game(much, 0));
        C.due("28: the first of " + much, first, x.game(much, 1));
    }

    /** Nobody falls, so no choice gains more: all four rest. */
    private static void gameOfNobody() {
        rests(new ValleyMass(), 0, 4, 0);
        rests(new ValleyMass(), 99, 4, 0);
        rests(Check.told("neutral bass 0 9 9;piece;bass 1 5;"), 99, 4, 0);
        ValleyMass x = Check.told("north bass 0 9 9;south bass 0 9 9;piece;bass 1 5;");
        x.fall(0);
        x.catches(1);
        rests(x, 50, 4, 0);
        // SKILLS of 0 are no loss.
        rests(Check.told("north bass 0 9 0;south bass 0 9 0;"), 50, 4, 0);
    }

    /** "so much (0 to 99)", "if neither gains more by its other choice". */
    private static void gameWhoseFirstIsFire() {
        // Fire fire 0 0, fire hold 5 -5, hold fire -5 5, hold hold much each.
        ValleyMass x = Check.told("north bass 0 9 5;south bass 0 9 5;piece;bass 2 5;");
        rests(x, 0, 1, 0);
        rests(x, 4, 1, 0);
        rests(x, 5, 2, 0);
        rests(x, 6, 2, 0);
        rests(x, 99, 2, 0);
        // Unlike SKILLS: to hold must pay for the one who could fell more.
        ValleyMass y = Check.told("north bass 0 9 9;south bass 0 9 2;piece;bass 2 5;");
        rests(y, 8, 1, 0);
        rests(y, 9, 2, 0);
    }

    /** "the first (10 by the north's and the south's)". */
    private static void gameWhoseFirstIsToHold() {
        // Only the south's one sings. Fire fire 0 0, fire hold 4 -4, hold fire m-2 m+2, hold hold m+2 m-2.
        ValleyMass x = Check.told("north alto 0 9 4;south bass 0 9 2;piece;bass 1 5;");
        rests(x, 0, 1, 0);
        rests(x, 1, 1, 0);
        rests(x, 2, 2, 0);
        rests(x, 3, 1, 10);
        rests(x, 99, 1, 10);
        // Only the north's one sings.
        ValleyMass y = Check.told("north alto 0 9 4;south bass 0 9 2;piece;alto 1 5;");
        rests(y, 3, 1, 0);
        rests(y, 4, 2, 0);
        rests(y, 5, 1, 1);
        rests(y, 99, 1, 1);
    }

    /** "who fires fells as on a DAY": by its AIM, whatever its TRUCE and the DAY are. */
    private static void gameAsOnADay() {
        String valley = "north bass 0 9 7;south bass 0 9 1;south bass 0 9 6;neutral alto 0 9 9;piece;bass 3 5;every 1;";
        // The north fells 2 (6): what it gains is 6; the south fells 0 (7).
        rests(Check.told(valley), 6, 1, 0);
        rests(Check.told(valley), 7, 2, 0);
        rests(Check.told(valley + "truce north 1;truce south 1;"), 6, 1, 0);
        // At the least skilled one it aims now: 1 is gained, but the south's 7 keeps both firing.
        ValleyMass aimed = Check.told("north bass 0 9 1;south bass 0 9 1;south bass 0 9 6;piece;bass 3 5;");
        rests(aimed, 5, 1, 0);
        rests(aimed, 6, 2, 0);
        ValleyMass least = Check.told("north bass 0 9 1;south bass 0 9 1;south bass 0 9 6;piece;bass 3 5;"
            + "aim north 0-skill;");
        rests(least, 0, 1, 0);
        rests(least, 1, 2, 0);
    }

    /** "and so much .. if as many PIECES CAN BE SUNG then as now": of all, not only of one. */
    private static void asManyPieces() {
        // Two pieces: one shot at the south leaves one of them, which is not as many.
        ValleyMass x = Check.told("north alto 0 9 0;south bass 0 9 5;piece;bass 1 5;piece;alto 1 5;");
        // Fire fire 0 0, fire hold 0 0, hold fire -5 5, hold hold m-5 m+5.
        rests(x, 4, 2, 0);
        rests(x, 5, 3, 0);
        rests(x, 6, 2, 0);
        // Nothing can be sung now nor then: as many.
        ValleyMass y = Check.told("north alto 0 9 3;south bass 0 9 5;piece;tenor 1 5;");
        rests(y, 0, 1, 0);
        rests(y, 99, 1, 0);
    }

    // ---- wars

    /** "n DAYS (0 to 60)": of none. */
    private static void warsOfNoDays() {
        ValleyMass x = Check.told("north bass 0 9 5;south bass 0 9 3;piece;bass 1 5;piece;bass 2 5;every 1;");
        C.due("29: fallen", 0, x.wars(1, 0, 0));
        C.due("29: evenings", 0, x.wars(1, 0, 1));
        C.due("29: pieces", 2, x.wars(1, 0, 2));
        x.fall(0);
        C.due("29: fallen", 1, x.wars(1, 0, 0));
        C.due("29: pieces", 1, x.wars(1, 0, 2));
    }

    /** Who of so many is drawn, by numbers that can't wrap; the seeds that come next are kept in it. */
    private static final class Draws {
        private static final BigInteger ALL = BigInteger.ONE.shiftLeft(32);
        private BigInteger seed;

        Draws(int seed) {
            this.seed = BigInteger.valueOf(seed).mod(ALL);
        }

        int next(int n) {
            seed = seed.multiply(BigInteger.valueOf(1103515245)).add(BigInteger.valueOf(12345)).mod(ALL);
            return seed.shiftRight(16).mod(BigInteger.valueOf(32768)).intValueExact() % n;
        }
    }

    /** "(an int that wraps); a DRAW of n is its bits 16 to 30 MOD n then". */
    private static void drawsThatWrap() {
        String parts = "neutral soprano 0 9 1;neutral alto 0 9 1;neutral tenor 0 9 1;neutral bass 0 9 1;"
            + "piece;soprano 1 5;piece;alto 1 5;piece;tenor 1 5;piece;bass 1 5;every 1;";
        int[] seeds = {0, 1, -1, 5, 12345, Integer.MAX_VALUE, Integer.MIN_VALUE, 1 << 16, -987654321, 65535};
        for (int others = 0; others <= 10; others += 5) {
            ValleyMass x = Check.told("neutral bass 48 48 1;".repeat(others) + parts);
            for (int seed : seeds) {
                for (int n : new int[] {1, 2, 7, 59, 60}) {
                    warOf(x, others, seed, n);
                }
            }
        }
    }

    /** The last four sing a piece each; those ahead of them sing nothing. */
    private static void warOf(ValleyMass x, int others, int seed, int n) {
        Draws draws = new Draws(seed);
        int free = 15;
        int evenings = 0;
        for (int day = 0; day < n; day++) {
            int drawn = draws.next(others + 4) - others;
            free ^= drawn >= 0 ? 1 << drawn : 0;
            evenings += free != 0 ? 1 : 0;
        }
        String what = "29: seed " + seed + ", days " + n + ", ";
        C.due(what + "fallen", 0, x.wars(seed, n, 0));
        C.due(what + "evenings", evenings, x.wars(seed, n, 1));
        C.due(what + "pieces", Integer.bitCount(free), x.wars(seed, n, 2));
    }

    /** "who is FREE is CAUGHT, who is CAUGHT is LET GO, who has FALLEN has; then the DAY". */
    private static void whoHasFallenHas() {
        ValleyMass one = Check.told("neutral bass 0 9 1;piece;bass 1 5;every 1;");
        C.due("29: caught ahead of day 0", 0, one.wars(1, 1, 1));
        C.due("29: let go ahead of day 1", 1, one.wars(1, 2, 1));
        C.due("29: free at the end", 1, one.wars(1, 2, 2));
        C.due("29: caught at the end", 0, one.wars(1, 3, 2));
        one.catches(0);
        C.due("29: let go ahead of day 0", 1, one.wars(1, 1, 1));
        C.due("29: caught on every second day", 30, one.wars(1, 60, 1));
        one.release(0);
        one.fall(0);
        C.due("29: not let go", 0, one.wars(1, 60, 1));
        C.due("29: not sung", 0, one.wars(1, 60, 2));
        C.due("29: fallen", 1, one.wars(1, 60, 0));
        C.due("29: nothing changes", 1, one.count(7));
    }

    /** "how many have FALLEN in all at the end". */
    private static void fallenInAll() {
        // The only one is caught ahead of day 0, let go ahead of day 1, and fired at then.
        ValleyMass x = Check.told("north bass 0 9 1;");
        C.due("29: caught, so not fired at", 0, x.wars(9, 1, 0));
        C.due("29: let go, and fell", 1, x.wars(9, 2, 0));
        C.due("29: once", 1, x.wars(9, 60, 0));
        // All fourteen, of whom five fell ahead: those who are caught at the end are left.
        ValleyMass y = Check.told("north bass 0 9 1;".repeat(7) + "south bass 0 9 1;".repeat(7));
        for (int i = 0; i < 5; i++) {
            y.fall(i);
        }
        C.due("29: in none", 5, y.wars(3, 0, 0));
        int[] how = new int[14];
        for (int n = 1; n <= 60; n++) {
            C.due("29: in " + n, fallenIn(n, how), y.wars(3, n, 0));
        }
    }

    /** Both sides fire at the least number that is free, day by day. */
    private static int fallenIn(int n, int[] how) {
        Draws draws = new Draws(3);
        for (int i = 0; i < 14; i++) {
            how[i] = i < 5 ? 2 : 0;
        }
        for (int day = 0; day < n; day++) {
            int drawn = draws.next(14);
            how[drawn] = how[drawn] == 2 ? 2 : 1 - how[drawn];
            fellFirst(how, 0, 7);
            fellFirst(how, 7, 14);
        }
        int fallen = 0;
        for (int one : how) {
            fallen += one == 2 ? 1 : 0;
        }
        return fallen;
    }

    private static void fellFirst(int[] how, int from, int to) {
        for (int i = from; i < to; i++) {
            if (how[i] == 0) {
                how[i] = 2;
                return;
            }
        }
    }

    /** "how many evenings were SUNG in it": not those ahead of it. */
    private static void eveningsInIt() {
        ValleyMass x = Check.told("neutral bass 0 9 1;".repeat(14) + "piece;bass 1 5;every 3;");
        x.days(4);
        C.due("29: sung on days 0 and 3", 2, x.count(4));
        C.due("29: day 4", 0, x.wars(1, 1, 1));
        C.due("29: days 4 and 5", 0, x.wars(1, 2, 1));
        C.due("29: day 6", 1, x.wars(1, 3, 1));
        C.due("29: up to day 63", 20, x.wars(1, 60, 1));
    }

    /** "(Without SINGERS nothing is drawn.)" */
    private static void withoutSingers() {
        ValleyMass x = Check.told("piece;bass 1 5;piece;");
        for (int what = 0; what < 3; what++) {
            C.due("29: without singers, " + what, 0, x.wars(7, 60, what));
            C.due("29: without singers, " + what, 0, x.wars(Integer.MIN_VALUE, 0, what));
        }
    }
}
