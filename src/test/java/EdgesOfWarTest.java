/**
 * The edges that the document names for days of war, rules, ACTS, images and the days to come: a
 * method for each sentence, with what it names on both sides of the edge.
 */
public final class EdgesOfWarTest {
    private static final Check C = new Check("EdgesOfWarTest");
    private static final String PEACE = "truce north 1;truce south 1;";
    /** One bass of each side, who sing for two or for one of them. */
    private static final String COUPLE = "north bass 0 9 5;south bass 0 9 3;";
    /** The greatest int, and the least one, as rules can tell them. */
    private static final String MOST = "(9999*9999*21+4790*9999+8416)";
    private static final String LEAST = "(0-9999*9999*21-4790*9999-8417)";

    public static void main(String[] args) {
        intsThatWrap();
        divisionCutsDownToZero();
        fromTheLeft();
        whatIsNotZeroHolds();
        valuesOfATruce();
        valuesOfAnAim();
        freeAtFirst();
        aDayOfEvery();
        onlyIfItCanBeSung();
        holdsIfMoreThanZero();
        ofLikeOnesTheLeast();
        bothAtOnce();
        nobodyToFireAt();
        neutralOnesAreNotFiredAt();
        oneToThirtyDays();
        notAbove999();
        whoIsFreeFalls();
        whoIsFreeIsCaught();
        whoIsCaughtIsLetGo();
        anExchange();
        fortyActsAreKept();
        lastOneFirst();
        refusedActsAreNotKept();
        anImage();
        inPlaceOfAnotherImage();
        anImageOfForty();
        anImageIsACopy();
        C.end();
    }

    private static void holds(String rule, boolean due) {
        ValleyMass x = Check.told("truce north " + rule + ";");
        C.due("40: " + rule + " is more than 0", due, x.holds(0));
    }

    private static void same(String one, String other) {
        ValleyMass x = Check.told("truce north (" + one + ")=(" + other + ");");
        C.due("40: " + one + " is " + other, true, x.holds(0));
    }

    // ---- rules

    /** "ints that wrap". */
    private static void intsThatWrap() {
        holds(MOST, true);
        holds(MOST + "+1", false);
        same(MOST + "+1", LEAST);
        same(LEAST + "-1", MOST);
        holds(LEAST + "-1", true);
        holds(LEAST, false);
        same("0-" + LEAST, LEAST);
        same(LEAST + "/(0-1)", LEAST);
        same(LEAST + "*(0-1)", LEAST);
        same(MOST + "*2", "0-2");
        same(MOST + "*" + MOST, "1");
        holds("9999*9999*21", true);
        holds("9999*9999*22", false);
        holds(LEAST + "<" + MOST, true);
        holds(MOST + "<" + LEAST, false);
        holds(MOST + "<" + MOST + "+1", false);
    }

    /** "/ cut down to 0, by 0 gives 0". */
    private static void divisionCutsDownToZero() {
        same("7/2", "3");
        same("(0-7)/2", "0-3");
        same("7/(0-2)", "0-3");
        same("(0-7)/(0-2)", "3");
        same("(0-1)/2", "0");
        same("1/9999", "0");
        same("5/0", "0");
        same("(0-5)/0", "0");
        same("0/0", "0");
        same(LEAST + "/0", "0");
        same("5/(3-3)*4+1", "1");
        same("8/day", "0");
    }

    /** "From the left". */
    private static void fromTheLeft() {
        same("7-3-2", "2");
        same("7-3+2", "6");
        same("8/4/2", "1");
        same("8/4*2", "4");
        same("7*3/2", "10");
        same("1+2*3", "7");
        same("2*3+1", "7");
        same("0 and 0 or 1", "1");
        same("1 or 0 and 0", "1");
        same("not 0 or 1", "1");
        same("1+1<3", "1");
        same("3<1+1", "0");
    }

    /** "tests, not, and, or are 1 or 0 (what isn't 0 holds)". */
    private static void whatIsNotZeroHolds() {
        same("not(0-1)", "0");
        same("not 7", "0");
        same("not 0", "1");
        same("not not 7", "1");
        same("(0-1)and 7", "1");
        same("7 and 0", "0");
        same("0 and 7", "0");
        same("(0-9)or 0", "1");
        same("0 or 7", "1");
        same("0 or 0", "0");
        same("2<2", "0");
        same("2<3", "1");
        same("3<2", "0");
        same("2=2", "1");
        same("2=3", "0");
        same("(1<2)+(2=2)+(not 0)", "3");
        same("not 1=2", "1");
        same("not 2<1 and 1", "1");
    }

    /** "VALUES of TRUCE": what they are at first, and who counts among them. */
    private static void valuesOfATruce() {
        String valley = "north bass 0 9 1;north bass 0 9 1;south bass 0 9 1;south alto 0 9 1;"
            + "south alto 0 9 1;neutral bass 0 9 1;piece;bass 4 5;piece;alto 2 5;piece;every 2;";
        String rule = "day*1000*100+sung*100*100+own*1000+other*100+fallen*10+can=";
        ValleyMass x = Check.told(valley + "truce north " + rule + "2302;truce south " + rule + "3202;");
        C.due("40: at first", true, x.holds(0) && x.holds(1));
        // A caught one is neither own nor other nor fallen, a neutral one never is.
        ValleyMass y = Check.told(valley + "truce north " + rule + "1100;truce south " + rule + "1110;");
        y.catches(0);
        y.catches(2);
        C.due("40: two of the south are free, and one piece can be sung", false, y.holds(0) || y.holds(1));
        y.fall(3);
        C.due("40: own, other, fallen, can", true, y.holds(0) && y.holds(1));
        y.fall(5);
        C.due("40: a neutral one doesn't count", true, y.holds(0) && y.holds(1));
        y.fall(1);
        C.due("40: one of the north does", false, y.holds(0) || y.holds(1));
        ValleyMass z = Check.told(valley + "truce north day<3 or day=3 and sung=2;truce south 1;");
        z.days(3);
        C.due("40: sung on days 0 and 2", true, z.holds(0));
        z.days(1);
        C.due("40: day 4", false, z.holds(0));
    }

    /** "of AIM, for each at whom one might: 'skill', 'part', 'singer', 'tone'". */
    private static void valuesOfAnAim() {
        String valley = "north soprano 0 9 0;north alto 0 9 9;north bass 0 9 1;south bass 0 9 1;"
            + "neutral alto 0 9 1;neutral alto 0 9 1;south soprano 0 9 1;";
        aims(valley, "skill", 1);
        aims(valley, "0-skill", 0);
        aims(valley, "part", 2);
        aims(valley, "0-part", 0);
        aims(valley, "singer", 2);
        aims(valley, "0-singer", 0);
        aims(valley, "tone", 1);
        aims(valley, "0-tone", 0);
        aims(valley, "part=3", 2);
        aims(valley, "part=1", 1);
        // Of all sides those who are free count: the altos caught, one is left, and two basses.
        ValleyMass x = Check.told(valley + "aim south tone;");
        x.catches(4);
        x.fall(5);
        C.due("41: tone with him", 0, x.aimed(1));
        x.fall(6);
        C.due("41: tone of basses", 2, x.aimed(1));
        C.due("41: the north without a rule", 3, x.aimed(0));
    }

    private static void aims(String valley, String rule, int due) {
        C.due("41: aim south " + rule, due, Check.told(valley + "aim south " + rule + ";").aimed(1));
    }

    // ---- days

    /** "Each is FREE at first .. the DAY is 0, SUNG 0." */
    private static void freeAtFirst() {
        ValleyMass x = Check.told(COUPLE + "neutral alto 1 1 1;");
        C.due("5: the day", 0, x.count(3));
        C.due("5: sung", 0, x.count(4));
        C.due("5: free", 7, x.count(5));
        C.due("5: caught", 0, x.count(6));
        C.due("5: fallen", 0, x.count(7));
        for (int i = 0; i < 3; i++) {
            C.due("6: free", 0, x.singer(i, 5));
        }
    }

    /** "if the DAY is one of EVERY (DAY MOD EVERY is 0)". */
    private static void aDayOfEvery() {
        for (int every = 1; every <= 9; every++) {
            ValleyMass x = Check.told(COUPLE + PEACE + "piece;bass 2 5;every " + every + ";");
            int sung = 0;
            for (int day = 0; day < 20; day++) {
                C.due("9: sung ahead of day " + day + " of every " + every, sung, x.count(4));
                x.days(1);
                sung += day % every == 0 ? 1 : 0;
            }
            C.due("9: sung of every " + every, sung, x.count(4));
            C.due("9: nobody fell", 3, x.count(5));
        }
        // On day 1 of every 2 both fire, though it could be sung; on day 0 of every 2 nobody does.
        ValleyMass x = Check.told(COUPLE + "piece;bass 2 5;every 2;");
        x.days(1);
        C.due("9: nobody fires", 3, x.count(5));
        x.days(1);
        C.due("9: on other days both fire", 3, x.count(7));
        C.due("9: sung", 1, x.count(4));
        ValleyMass four = Check.told(COUPLE + PEACE + "piece;bass 2 5;");
        four.days(4);
        C.due("9: every fourth without", 1, four.count(4));
        four.days(1);
        C.due("9: every fourth without", 2, four.count(4));
    }

    /** "and some PIECE CAN BE SUNG .. (of no ROWS: it can't)". */
    private static void onlyIfItCanBeSung() {
        ValleyMass x = Check.told(COUPLE + "piece;every 1;");
        C.due("5: no rows", 0, x.count(8));
        x.days(1);
        C.due("9: not sung", 0, x.count(4));
        C.due("9: both fire", 3, x.count(7));
        ValleyMass y = Check.told(COUPLE + "every 1;");
        y.days(1);
        C.due("9: without pieces both fire", 3, y.count(7));
        ValleyMass z = Check.told(COUPLE + "piece;bass 3 5;piece;piece;bass 1 9;every 1;");
        C.due("5: one of three", 4, z.count(8));
        z.days(30);
        C.due("9: one is enough, day for day", 30, z.count(4));
        z.days(30);
        C.due("9: nobody fell", 3, z.count(5));
        // With one of two caught it can't be sung: both fire, and the caught one is not shot at.
        ValleyMass v = Check.told(COUPLE + "piece;bass 2 5;every 1;");
        v.days(2);
        v.catches(0);
        v.days(2);
        C.due("9: sung until one is caught", 2, v.count(4));
        C.due("9: who is free falls", 2, v.count(7));
        C.due("9: who is caught doesn't", 1, v.count(6));
    }

    /** "one HOLDS, if its TRUCE gives more than 0 (without one it doesn't)". */
    private static void holdsIfMoreThanZero() {
        String[] rules = {"truce north 1;", "truce north 0;", "truce north 0-1;", "truce north 9999;", ""};
        boolean[] due = {true, false, false, true, false};
        for (int i = 0; i < rules.length; i++) {
            ValleyMass x = Check.told(COUPLE + "truce south 1;" + rules[i]);
            C.due("40: " + rules[i], due[i], x.holds(0));
            C.due("40: the south", true, x.holds(1));
            x.days(1);
            C.due("9: " + rules[i], due[i] ? 0 : 2, x.count(7));
        }
    }

    /** "gives most (without one SKILL; of like ones the least)": of numbers below 0, too. */
    private static void ofLikeOnesTheLeast() {
        String souths = "north bass 0 9 5;south bass 0 9 3;south bass 0 9 7;south bass 0 9 7;south bass 0 9 0;";
        C.due("41: without a rule", 2, Check.told(souths).aimed(0));
        C.due("41: all are like", 1, Check.told(souths + "aim north 5;").aimed(0));
        C.due("41: all are like at 0", 1, Check.told(souths + "aim north 0;").aimed(0));
        C.due("41: all are below 0", 1, Check.told(souths + "aim north 0-5;").aimed(0));
        C.due("41: all are least of all", 1, Check.told(souths + "aim north " + LEAST + ";").aimed(0));
        C.due("41: below 0", 4, Check.told(souths + "aim north 0-skill-1;").aimed(0));
        C.due("41: wraps", 4, Check.told(souths + "aim north " + MOST + "+skill;").aimed(0));
        C.due("41: the greatest", 1, Check.told(souths + "aim north (singer=1)*" + MOST + ";").aimed(0));
        C.due("41: the least but one", 3, Check.told(souths + "aim north " + LEAST + "+(singer=3);").aimed(0));
        ValleyMass x = Check.told(souths + "truce south 1;");
        int[] order = {4, 12, 14, 30, 30};
        for (int day = 0; day < order.length; day++) {
            x.days(1);
            C.due("9: fallen behind day " + day, order[day], x.count(7));
        }
        ValleyMass skills = Check.told("south bass 0 9 0;south bass 0 9 0;north bass 0 9 0;");
        C.due("41: of skill 0 the least", 0, skills.aimed(0));
        C.due("41: of skill 0 the only one", 2, skills.aimed(1));
    }

    /** "Else both SIDES decide at once .. and these fall, both at once." */
    private static void bothAtOnce() {
        ValleyMass x = Check.told(COUPLE);
        x.days(1);
        C.due("9: both fell", 3, x.count(7));
        // Each rule sees the morning: were the north first, the south would have nobody left to hold.
        ValleyMass y = Check.told(COUPLE + "truce south own;");
        y.days(1);
        C.due("9: the south held as the day began", 2, y.count(7));
        y.days(1);
        C.due("9: the day behind it doesn't", 3, y.count(7));
        ValleyMass z = Check.told(COUPLE + "truce north fallen;truce south fallen;");
        z.days(1);
        C.due("9: nobody had fallen yet", 3, z.count(7));
    }

    /** "(If nobody of the other SIDE is FREE, nobody falls.) The DAY is one more then." */
    private static void nobodyToFireAt() {
        ValleyMass x = Check.told("north bass 0 9 5;north bass 0 9 5;");
        C.due("41: nobody", -1, x.aimed(0));
        C.due("41: the south aims still", 0, x.aimed(1));
        ValleyMass y = Check.told(COUPLE + "truce south 1;");
        y.catches(1);
        C.due("41: who is caught is not aimed at", -1, y.aimed(0));
        C.due("9: the day is one more", 1, y.days(1));
        C.due("9: nobody fell", 0, y.count(7));
        C.due("9: he is caught still", 2, y.count(6));
        y.release(1);
        y.fall(1);
        C.due("41: nor who has fallen", -1, y.aimed(0));
        C.due("9: the day is one more", 31, y.days(30));
        C.due("9: the other is free", 1, y.count(5));
        C.due("41: whether it holds or not", 0, y.aimed(1));
        C.due("40: it holds", true, y.holds(1));
    }

    /** Only "all of the other SIDE" are fired at; who is neutral is of neither. */
    private static void neutralOnesAreNotFiredAt() {
        ValleyMass x = Check.told("neutral bass 0 9 9;north bass 0 9 1;neutral alto 0 9 9;south alto 0 9 1;");
        C.due("41: the south's", 3, x.aimed(0));
        C.due("41: the north's", 1, x.aimed(1));
        x.days(30);
        C.due("9: the neutral ones stay", 5, x.count(5));
        C.due("44: gone at once", 30, x.gone(0));
        C.due("44: never", -1, x.gone(2));
    }

    // ---- acts

    /** "NONE (STATUS 1): not 1 to 30". */
    private static void oneToThirtyDays() {
        ValleyMass x = Check.told(COUPLE + PEACE);
        int refused = 0;
        for (int many : new int[] {0, -1, 31, 32, 999, Integer.MIN_VALUE, Integer.MAX_VALUE}) {
            C.due("9: days " + many, -1, x.days(many));
            refused++;
            C.due("9: STATUS 1", refused, x.count(13));
        }
        C.due("9: no day went by", 0, x.count(3));
        C.due("9: no act", 0, x.count(9));
        C.due("9: one", 1, x.days(1));
        C.due("9: thirty", 31, x.days(30));
        C.due("9: acts", 2, x.count(9));
        C.due("9: no more was refused", refused, x.count(13));
    }

    /** "it would be above 999". */
    private static void notAbove999() {
        ValleyMass x = new ValleyMass();
        for (int day = 30; day <= 960; day += 30) {
            C.due("9: days", day, x.days(30));
        }
        C.due("9: days", 969, x.days(9));
        C.due("9: up to 999", 999, x.days(30));
        C.due("9: above it", -1, x.days(1));
        C.due("9: above it", -1, x.days(30));
        C.due("9: it stays", 999, x.count(3));
        C.due("9: STATUS 1", 2, x.count(13));
        C.due("14: the latest acts are undone", 33, x.undo());
        C.due("9: 969 and 30", 969, x.count(3));
        C.due("9: days", 970, x.days(1));
        C.due("9: 970 and 30", -1, x.days(30));
        C.due("9: 970 and 29", 999, x.days(29));
        // Days that are only asked about go on behind 999.
        C.due("20: the next evening", 1000, x.silent());
        C.due("19: of 99", 99, x.peace());
        C.due("44: now", 999, x.gone(0));
    }

    /** "False (STATUS 1): he isn't FREE." */
    private static void whoIsFreeFalls() {
        ValleyMass x = Check.told(COUPLE + "neutral alto 1 1 1;");
        C.due("10: free", true, x.fall(2));
        C.due("10: fallen", false, x.fall(2));
        C.due("10: STATUS 1", 1, x.count(13));
        x.catches(1);
        C.due("10: caught", false, x.fall(1));
        C.due("10: STATUS 1", 2, x.count(13));
        C.due("10: he is caught still", 1, x.singer(1, 5));
        C.due("10: he has fallen", 2, x.singer(2, 5));
        C.due("10: two acts", 2, x.count(9));
        C.due("10: bits", 4, x.count(7));
    }

    private static void whoIsFreeIsCaught() {
        ValleyMass x = Check.told(COUPLE + "neutral alto 1 1 1;");
        C.due("11: free", true, x.catches(2));
        C.due("11: caught", false, x.catches(2));
        x.fall(1);
        C.due("11: fallen", false, x.catches(1));
        C.due("11: STATUS 1", 2, x.count(13));
        C.due("11: bits", 4, x.count(6));
        C.due("11: he has fallen still", 2, x.count(7));
        C.due("11: two acts", 2, x.count(9));
    }

    /** "False (STATUS 1): he isn't CAUGHT." */
    private static void whoIsCaughtIsLetGo() {
        ValleyMass x = Check.told(COUPLE + "neutral alto 1 1 1;");
        C.due("12: free", false, x.release(2));
        x.catches(2);
        C.due("12: caught", true, x.release(2));
        C.due("12: free again", false, x.release(2));
        x.fall(0);
        C.due("12: fallen", false, x.release(0));
        C.due("12: STATUS 1", 3, x.count(13));
        C.due("12: bits", 6, x.count(5));
        C.due("12: three acts", 3, x.count(9));
    }

    /** "they aren't one of the north and one of the south (in this order), both CAUGHT". */
    private static void anExchange() {
        String six = "north bass 0 9 5;south bass 0 9 3;neutral bass 0 9 1;north alto 0 9 1;south alto 0 9 1;";
        for (int caught = 0; caught < 32; caught++) {
            for (int couple = 0; couple < 25; couple++) {
                exchangeOf(Check.told(six), caught, couple / 5, couple % 5);
            }
        }
        ValleyMass fallen = Check.told(six);
        fallen.catches(0);
        fallen.fall(1);
        C.due("13: a fallen one", false, fallen.exchange(0, 1));
        fallen.fall(3);
        fallen.catches(4);
        C.due("13: a fallen one", false, fallen.exchange(3, 4));
        C.due("13: the others", true, fallen.exchange(0, 4));
    }

    private static void exchangeOf(ValleyMass x, int caught, int north, int south) {
        for (int i = 0; i < 5; i++) {
            if ((caught >> i & 1) != 0) {
                x.catches(i);
            }
        }
        int acts = x.count(9);
        boolean sides = (north == 0 || north == 3) && (south == 1 || south == 4);
        boolean fit = sides && (caught >> north & caught >> south & 1) != 0;
        String what = "13: exchange " + north + ", " + south + " of " + caught;
        C.due(what, fit, x.exchange(north, south));
        int left = fit ? caught & ~(1 << north | 1 << south) : caught;
        C.due(what + ": caught", left, x.count(6));
        C.due(what + ": free", 31 & ~left, x.count(5));
        C.due(what + ": acts", acts + (fit ? 1 : 0), x.count(9));
        C.due(what + ": STATUS 1", fit ? 0 : 1, x.count(13));
        if (fit) {
            C.due(what + ": undone", acts, x.undo());
            C.due(what + ": both are caught again", caught, x.count(6));
        }
    }

    /** "ACTS (at most 40 are kept, the latest ones)". */
    private static void fortyActsAreKept() {
        for (int many = 38; many <= 43; many++) {
            ValleyMass x = Check.told(COUPLE + PEACE);
            for (int i = 1; i <= many; i++) {
                C.due("9: day " + i, i, x.days(1));
                C.due("5: acts", Math.min(40, i), x.count(9));
            }
            int kept = Math.min(40, many);
            for (int left = kept - 1; left >= 0; left--) {
                C.due("14: left", left, x.undo());
                C.due("14: the day", many - kept + left, x.count(3));
            }
            C.due("14: none", -1, x.undo());
            C.due("14: the day stays", many - kept, x.count(3));
            C.due("5: acts", 0, x.count(9));
            C.due("14: nothing is refused", 0, x.count(13));
        }
    }

    /** "They are UNDONE, the last one first": one of each kind, SUNG and how all are. */
    private static void lastOneFirst() {
        ValleyMass x = Check.told(COUPLE + "north alto 0 9 1;south alto 0 9 1;piece;bass 2 5;every 2;");
        x.catches(2);
        x.catches(3);
        x.exchange(2, 3);
        x.days(2);
        x.fall(2);
        x.catches(3);
        x.release(3);
        x.undo();
        C.due("14: caught again", 8, x.count(6));
        x.undo();
        C.due("14: free again", 8, x.count(5));
        x.undo();
        C.due("14: the alto stands again", 12, x.count(5));
        C.due("14: the basses fell", 3, x.count(7));
        C.due("14: the day", 2, x.count(3));
        C.due("14: sung", 1, x.count(4));
        C.due("14: three are left", 3, x.undo());
        C.due("14: the days are undone", 0, x.count(3));
        C.due("14: not sung", 0, x.count(4));
        C.due("14: all are free", 15, x.count(5));
        C.due("14: two are left", 2, x.undo());
        C.due("14: both are caught again", 12, x.count(6));
        C.due("14: one is left", 1, x.undo());
        C.due("14: one is caught", 4, x.count(6));
        C.due("14: none is left", 0, x.undo());
        C.due("14: all are free", 15, x.count(5));
        C.due("14: none", -1, x.undo());
        // What is HEARD is no ACT.
        x.hear(0, 3, 0, 5);
        C.due("14: nothing to undo", -1, x.undo());
        C.due("14: heard still", 1, x.count(10));
    }

    private static void refusedActsAreNotKept() {
        ValleyMass x = Check.told(COUPLE + PEACE);
        x.days(2);
        x.days(0);
        x.days(31);
        x.release(0);
        x.exchange(0, 1);
        C.due("STATUS 1", 4, x.count(13));
        C.due("5: one act", 1, x.count(9));
        C.due("14: none is left", 0, x.undo());
        C.due("14: the day", 0, x.count(3));
        C.due("14: none", -1, x.undo());
        C.due("14: STATUS stays", 4, x.count(13));
    }

    // ---- images

    /** "They are as the image again: true. False: there is none." */
    private static void anImage() {
        ValleyMass x = Check.told(COUPLE + "neutral alto 1 9 1;piece;bass 2 5;every 3;");
        C.due("47: none", false, x.restore());
        C.due("47: nothing is refused", 0, x.count(13));
        x.days(1);
        x.catches(2);
        x.hear(0, 3, 0, 4);
        x.hear(0, 3, 0, 3);
        String before = Check.allOf(x);
        x.image();
        C.due("46: nothing changes", before, Check.allOf(x));
        x.release(2);
        x.fall(2);
        x.days(2);
        x.forget();
        x.hear(0, 3, 0, 5);
        for (int i = 0; i < 3; i++) {
            C.due("47: restore", true, x.restore());
            C.due("47: as the image", before, Check.allOf(x));
            C.due("46: acts", 1, x.undo());
            C.due("46: the second was a catch", 7, x.count(5));
            C.due("46: acts", 0, x.undo());
            C.due("46: the first was a day", 0, x.count(3));
            x.forget();
        }
        // Bytes that were fed are no part of it.
        Check.feed(x, "every 2;");
        C.due("47: restore", true, x.restore());
        C.due("47: the tape stays", 20, x.count(11));
        x.valley(8);
        C.due("47: none", false, x.restore());
        C.due("47: nothing changes", 0, x.count(3));
    }

    /** "are kept as an image, in place of another one". */
    private static void inPlaceOfAnotherImage() {
        ValleyMass x = Check.told(COUPLE + PEACE + "piece;bass 1 5;");
        x.days(1);
        x.hear(0, 3, 0, 5);
        x.image();
        x.days(4);
        x.catches(1);
        x.forget();
        x.image();
        x.days(8);
        C.due("47: restore", true, x.restore());
        C.due("46: the later one", 5, x.count(3));
        C.due("46: acts", 3, x.count(9));
        C.due("46: caught", 2, x.count(6));
        C.due("46: nothing heard", 0, x.count(10));
        C.due("47: sung on days 0 and 4", 2, x.count(4));
        // An image at first, before anything went by, is one too.
        ValleyMass y = new ValleyMass();
        y.image();
        y.days(7);
        C.due("47: restore", true, y.restore());
        C.due("47: the day", 0, y.count(3));
        C.due("47: no acts", -1, y.undo());
    }

    /** What comes behind image() takes nothing from it: other ACTS, other notes that are HEARD. */
    private static void anImageIsACopy() {
        ValleyMass x = Check.told(COUPLE + PEACE + "neutral alto 1 9 1;piece;bass 1 5;alto 1 7;");
        x.days(3);
        x.catches(2);
        x.days(4);
        x.hear(0, 3, 0, 3);
        x.hear(0, 1, 0, 7);
        x.image();
        for (int round = 0; round < 2; round++) {
            while (x.undo() > 0) {
                C.due("46: undone", true, x.count(9) > 0);
            }
            x.forget();
            x.hear(0, 1, 0, 3);
            x.hear(0, 3, 0, 5);
            x.fall(0);
            x.fall(1);
            x.fall(2);
            C.due("47: restore", true, x.restore());
            C.due("46: who was flat", 2, x.flat(0));
            C.due("46: the first of them", 2, x.flat(1));
            C.due("46: acts", 2, x.undo());
            C.due("46: ahead of the four days", 3, x.count(3));
            C.due("46: caught", 4, x.count(6));
            C.due("46: acts", 1, x.undo());
            C.due("46: free", 7, x.count(5));
            C.due("46: acts", 0, x.undo());
            C.due("46: ahead of the three days", 0, x.count(3));
            C.due("47: restore", true, x.restore());
        }
    }

    private static void anImageOfForty() {
        ValleyMass x = Check.told(COUPLE + PEACE + "piece;bass 1 5;");
        for (int i = 0; i < 44; i++) {
            x.days(2);
        }
        for (int i = 0; i < 8; i++) {
            x.hear(0, 3, 0, 5);
        }
        x.image();
        for (int i = 0; i < 44; i++) {
            x.undo();
        }
        x.forget();
        x.fall(0);
        C.due("47: restore", true, x.restore());
        C.due("46: acts", 40, x.count(9));
        C.due("46: heard", 8, x.count(10));
        C.due("25: a ninth", -1, x.hear(0, 3, 0, 5));
        C.due("9: one more", 89, x.days(1));
        C.due("46: the latest forty", 40, x.count(9));
        for (int left = 39; left >= 0; left--) {
            C.due("14: left", left, x.undo());
        }
        C.due("14: the first five are gone", 10, x.count(3));
    }
}
