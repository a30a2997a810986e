import java.util.ArrayList;
import java.util.List;
import java.util.Random;
import java.util.regex.Matcher;
import java.util.regex.Pattern;

/** Promises 3 and 4: which FAULT a text has, and where. */
public final class FaultsTest {
    private static final Check CHECK = new Check("FaultsTest");
    private static final String MANY_SINGERS = "north bass 0 1 1;".repeat(14);
    private static final String MANY_PIECES = "piece;".repeat(5);

    public static void main(String[] args) {
        byHand();
        expressionsByHand();
        atRandom(args.length > 0 ? Integer.parseInt(args[0]) : 20000);
        CHECK.end();
    }

    private static void fault(String text, int kind, int place) {
        ValleyMass x = new ValleyMass();
        CHECK.due("valley of " + text, kind, Check.tell(x, text));
        CHECK.due("fault of " + text, place, x.fault());
        SlowFaults slow = new SlowFaults(text);
        CHECK.due("slow valley of " + text, kind, slow.fault);
        CHECK.due("slow fault of " + text, place, slow.place);
    }

    private static void good(String text) {
        fault(text, 0, -1);
    }

    private static void byHand() {
        good("");
        good("  \n ");
        good("north tenor 0 0 0;south bass 48 48 9;neutral alto 0 48 5;piece;alto 4 0 48;every 9;");
        good("north\ntenor\n0000\n0048\n0009\n;");
        good("piece;piece;soprano 1 1;alto 1 1;tenor 1 1;bass 1 1 2 3 4 5 6 7 8 9 10 11 12;");
        good(MANY_SINGERS + MANY_PIECES);
        fault("north", 1, 5);
        fault("north  ", 1, 7);
        fault("north tenor 1 2 3", 1, 17);
        fault("northtenor 1 2 3;", 1, 0);
        fault("north tenor1 2 3;;", 1, 17);
        fault(";", 1, 0);
        fault("7;", 1, 0);
        fault("12345;", 1, 0);
        fault("North tenor 1 2 3;", 1, 0);
        fault("north\ttenor 1 2 3;", 1, 5);
        fault("north tenor 1 2 3;\r", 1, 18);
        fault("north tenor 1 2 3;" + (char) 233, 1, 18);
        fault("north tenor 1 2 3 4;", 1, 18);
        fault("north tenor 1 2 12345;", 2, 16);
        fault("north tenor 1 2 3 12345;", 1, 18);
        fault("north tenor 00001 2 3;", 2, 12);
        fault("north tenor 49 2 3;", 2, 12);
        fault("north tenor 9 8 3;", 2, 14);
        fault("north tenor 9 49 3;", 2, 14);
        fault("north tenor 9 9 10;", 2, 16);
        fault("north tenor -1 9 1;", 1, 12);
        fault("north north 1 9 1;", 1, 6);
        fault("day;", 1, 0);
        fault("piece 1;", 1, 6);
        fault("bass 1 1;piece;", 1, 0);
        fault("piece;bass 0 1;", 2, 11);
        fault("piece;bass 5 1;", 2, 11);
        fault("piece;bass 1;", 1, 12);
        fault("piece;bass 1 49;", 2, 13);
        fault("piece;bass 1 1 bass;", 1, 15);
        fault("piece;bass 1 1;piece;bass 1 1;bass 1 1;", 4, 30);
        fault("piece;bass 1 1 1 1 1 1 1 1 1 1 1 1 1 99;", 2, 37);
        fault("piece;bass 1 1 1 1 1 1 1 1 1 1 1 1 1 bass;", 1, 37);
        fault(MANY_SINGERS + "south bass 0 1 1;", 2, 238);
        fault(MANY_PIECES + "piece;", 2, 30);
        fault("every;", 1, 5);
        fault("every 0;", 2, 6);
        fault("every 10;", 2, 6);
        fault("every 3;every 3;", 5, 8);
        fault("every 3;every", 5, 8);
    }

    private static void expressionsByHand() {
        good("truce north 9999;truce south day+sung-own*other/fallen<can;");
        good("aim north skill=part or singer and not tone;aim south(((((1)))));");
        good("truce north not not not not not not 1<2;");
        good("truce north not not not not not not(not not not not not not day);");
        good("truce north 1<2 and 2<3 or 1=(1=1);");
        fault("truce", 1, 5);
        fault("truce neutral 1;", 1, 6);
        fault("truce north", 1, 11);
        fault("truce north 1", 1, 13);
        fault("truce north;", 1, 11);
        fault("truce north 1;truce south 1;truce north 1;", 5, 34);
        fault("aim north 1;aim south 1;aim south", 5, 28);
        good("aim north 1;aim south 1;truce south 1;truce north 1;");
        fault("truce north 12345;", 2, 12);
        fault("truce north 1 12345;", 1, 14);
        fault("truce north 1<2<3;", 1, 15);
        fault("truce north 1<2=3;", 1, 15);
        fault("truce north 1 not 2;", 1, 14);
        fault("truce north 1 day;", 1, 14);
        fault("truce north 1+not 2;", 3, 14);
        fault("truce north 1<not 2;", 3, 14);
        fault("truce north and;", 3, 12);
        fault("truce north not or;", 3, 16);
        fault("truce north nothing;", 3, 12);
        fault("truce north north;", 3, 12);
        fault("truce north skill;", 3, 12);
        fault("aim north can;", 3, 10);
        fault("aim north (skill;", 1, 16);
        fault("aim north skill);", 1, 15);
        fault("aim north ();", 1, 11);
        fault("aim north +1;", 1, 10);
        fault("aim north 1++1;", 1, 12);
        fault("aim north 1>1;", 1, 11);
        fault("aim north ((((((1))))));", 2, 16);
        fault("aim north (((((((1)))))));", 2, 16);
        fault("aim north ((((((zebra))))));", 2, 16);
        fault("aim north ((((((not 1))))));", 2, 16);
        fault("aim north ((((((12345))))));", 2, 16);
        fault("aim north (((((())))));", 1, 16);
        fault("aim north ((((((+1))))));", 1, 16);
        fault("aim north ((((((", 1, 16);
        fault("aim north (((((zebra)))));", 3, 15);
        fault("aim north (((((1)+(1)+(1)))))+((((((1))))));", 2, 36);
        fault("aim north not not not not not not not 1;", 2, 34);
        fault("aim north not not not not not not;", 1, 33);
        fault("aim north 1 and not not not not not not not", 2, 40);
    }

    private static final Pattern TOKEN = Pattern.compile("[a-z]+|[0-9]+|[^a-z0-9]");
    private static final String[] STRANGE = {"north", "south", "neutral", "soprano", "bass", "piece",
        "every", "truce", "aim", "or", "and", "not", "day", "can", "skill", "tone", "zebra", "0", "5",
        "48", "49", "12345", ";", "(", ")", "+", "-", "*", "/", "<", "=", ">", "\t", " ", "\n"};

    /** Texts that were right until a few tokens were lost, doubled, changed or put in. */
    private static void atRandom(int many) {
        for (int seed = 0; seed < many; seed++) {
            Random r = new Random(seed * 31L + 7);
            List<String> tokens = new ArrayList<>();
            Matcher found = TOKEN.matcher(SlowModel.make(r, 5).text);
            while (found.find()) {
                tokens.add(found.group());
            }
            for (int i = 1 + r.nextInt(2); i > 0 && !tokens.isEmpty(); i--) {
                int at = r.nextInt(tokens.size());
                String strange = STRANGE[r.nextInt(STRANGE.length)];
                switch (r.nextInt(5)) {
                    case 0: tokens.remove(at); break;
                    case 1: tokens.set(at, strange); break;
                    case 2: tokens.add(at, " " + strange + " "); break;
                    case 3: tokens.add(at, tokens.get(r.nextInt(tokens.size()))); break;
                    default: tokens.add(at, "((((((".substring(r.nextInt(6))); break;
                }
            }
            String text = String.join("", tokens);
            if (text.length() <= 700) {
                SlowFaults slow = new SlowFaults(text);
                fault(text, slow.fault, slow.place);
            }
        }
    }
}
