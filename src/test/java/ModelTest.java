import java.util.Random;

/** All promises at once, on valleys made at random, against the slow model. */
public final class ModelTest {
    private static final Check CHECK = new Check("ModelTest");

    public static void main(String[] args) {
        int runs = args.length > 0 ? Integer.parseInt(args[0]) : 400;
        for (int seed = 1; seed <= runs; seed++) {
            Random r = new Random(seed * 7919L);
            boolean many = seed % 8 == 0;
            ValleyMass x = new ValleyMass();
            int[] refused = new int[3];
            // One object is told one valley behind the other: nothing of the old ones may stay.
            for (int i = 0; i < 4; i++) {
                tellWrongly(r, x, refused);
                run(r, x, SlowModel.make(r, many ? 14 : 9), many ? 3 : 12, refused, seed % 2 == 0);
            }
        }
        CHECK.end();
    }

    /** In calm runs fewer days go by, so that more are left to be caught and exchanged. */
    private static void run(Random r, ValleyMass x, SlowModel m, int acts, int[] refused, boolean calm) {
        due("valley of " + m.text, 0, Check.tell(x, m.text));
        told(m, x);
        state(m, x);
        for (int i = 0; i < acts; i++) {
            act(r, m, x, calm ? CALM[r.nextInt(CALM.length)] : r.nextInt(11), refused);
            due("refused acts", refused[0], x.count(13));
            due("refused to hear", refused[1], x.count(14));
            due("refused texts", refused[2], x.count(12));
            state(m, x);
            if (i % 3 == 0) {
                ask(r, m, x);
            }
        }
    }

    /** A text that ends too soon leaves all as it is, whatever it told until then. */
    private static void tellWrongly(Random r, ValleyMass x, int[] refused) {
        String text = SlowModel.make(r, 9).text;
        if (text.length() > 1 && r.nextBoolean()) {
            int singers = x.count(0);
            int free = x.count(5);
            String cut = text.substring(0, text.length() - 1);
            due("a text without its end", 1, Check.tell(x, cut));
            due("where it ends", cut.length(), x.fault());
            due("singers stay", singers, x.count(0));
            due("free ones stay", free, x.count(5));
            refused[2]++;
        }
    }

    private static void told(SlowModel m, ValleyMass x) {
        due("singers", m.n, x.count(0));
        due("pieces", m.pieces, x.count(1));
        due("every", m.every, x.count(2));
        for (int s = 0; s < m.n; s++) {
            due("side", m.side[s], x.singer(s, 0));
            due("part", m.part[s], x.singer(s, 1));
            due("lowest", m.low[s], x.singer(s, 2));
            due("highest", m.high[s], x.singer(s, 3));
            due("skill", m.skill[s], x.singer(s, 4));
            due("standIns", m.standIns(s), x.standIns(s));
        }
        for (int p = 0; p < m.pieces; p++) {
            for (int q = 0; q < 4; q++) {
                due("need", m.need[p][q], x.row(p, q, -1));
                due("notes", m.notes[p][q].length, x.row(p, q, -2));
                for (int i = 0; i < m.notes[p][q].length; i++) {
                    due("note", m.notes[p][q][i], x.row(p, q, i));
                }
            }
        }
    }

    private static final int[] CALM = {0, 3, 4, 4, 4, 4, 4, 4, 6, 7, 7, 7, 7, 8, 9, 10, 10, 10};

    private static void act(Random r, SlowModel m, ValleyMass x, int kind, int[] refused) {
        int s = m.n == 0 ? 0 : r.nextInt(m.n);
        int t = m.n == 0 ? 0 : r.nextInt(m.n);
        if (m.n == 0 && kind > 2 && kind < 8) {
            return;
        }
        boolean done = true;
        switch (kind) {
            case 0: case 1: case 2:
                int many = r.nextInt(10) == 0 ? r.nextInt(40) - 4 : 1 + r.nextInt(2);
                int day = m.days(many);
                done = day >= 0;
                due("days", day, x.days(many));
                break;
            case 3:
                done = m.change(s, 0, 2);
                due("fall", done ? 1 : 0, x.fall(s) ? 1 : 0);
                break;
            case 4: case 5:
                done = m.change(s, 0, 1);
                due("catches", done ? 1 : 0, x.catches(s) ? 1 : 0);
                break;
            case 6:
                done = m.change(s, 1, 0);
                due("release", done ? 1 : 0, x.release(s) ? 1 : 0);
                break;
            case 7:
                done = m.exchange(s, t);
                due("exchange", done ? 1 : 0, x.exchange(s, t) ? 1 : 0);
                break;
            case 8:
                for (int i = r.nextInt(4); i >= 0; i--) {
                    due("undo", m.undo(), x.undo());
                }
                break;
            case 9:
                if (r.nextBoolean()) {
                    m.image();
                    x.image();
                } else {
                    due("restore", m.restore() ? 1 : 0, x.restore() ? 1 : 0);
                }
                break;
            default:
                hear(r, m, x, refused);
        }
        refused[0] += done ? 0 : 1;
    }

    private static void hear(Random r, SlowModel m, ValleyMass x, int[] refused) {
        if (m.pieces == 0) {
            return;
        }
        if (r.nextInt(12) == 0) {
            m.heard.clear();
            x.forget();
        }
        int p = r.nextInt(m.pieces);
        int q = r.nextInt(4);
        int i = r.nextInt(4) - (r.nextInt(9) == 0 ? 1 : 0);
        int note = r.nextInt(50);
        boolean there = i >= 0 && i < m.notes[p][q].length;
        if (there) {
            boolean lower = r.nextInt(3) == 0 && m.ableBits(m.life, p, q) != 0;
            note = m.notes[p][q][i] - (lower ? 1 + m.n % 5 : 0);
        }
        if (r.nextInt(12) == 0) {
            note = r.nextInt(70) - 5;
        }
        boolean fits = m.heard.size() < 8 && there && note >= 0 && note <= 60;
        if (fits) {
            m.heard.add(new int[] {p, q, i, note});
        } else {
            refused[1]++;
        }
        due("hear", fits ? m.heard.size() : -1, x.hear(p, q, i, note));
    }

    private static void state(SlowModel m, ValleyMass x) {
        due("day", m.life.day, x.count(3));
        due("sung", m.life.sung, x.count(4));
        for (int how = 0; how < 3; how++) {
            due("bits of " + how, m.bits(m.life, how), x.count(5 + how));
        }
        due("singable", m.singable(m.life), x.count(8));
        due("acts", m.acts.size(), x.count(9));
        due("heard", m.heard.size(), x.count(10));
        for (int s = 0; s < m.n; s++) {
            due("how", m.life.how[s], x.singer(s, 5));
            due("rows", m.rows(s), x.rows(s));
        }
    }

    private static void ask(Random r, SlowModel m, ValleyMass x) {
        int seed = r.nextInt();
        int many = r.nextInt(20);
        for (int p = 0; p < m.pieces; p++) {
            askPiece(r, m, x, p);
        }
        due("keys", m.keys(), x.keys());
        due("bargain", m.bargain(), x.bargain());
        due("duet", m.duet(), x.duet());
        due("evening", m.evening(), x.evening());
        due("peace", m.peace(), x.peace());
        due("silent", m.silent(), x.silent());
        due("falls", m.falls(many), x.falls(many));
        for (int of = 0; of < 3; of++) {
            due("gone", m.gone(of), x.gone(of));
            for (int q = 0; q < 4; q++) {
                due("voices", m.voices(of, q), x.voices(of, q));
            }
            due("flat", m.flat(of), x.flat(of));
            due("wars", m.wars(seed, many, of), x.wars(seed, many, of));
        }
        for (int of = 0; of < 2; of++) {
            due("holds", m.holds(m.life, of) ? 1 : 0, x.holds(of) ? 1 : 0);
            due("aimed", m.aimed(m.life, of), x.aimed(of));
            due("held", m.held(of, many), x.held(of, many));
            due("game", m.game(many, of), x.game(many, of));
            due("game", m.game(0, of), x.game(0, of));
        }
    }

    private static void askPiece(Random r, SlowModel m, ValleyMass x, int p) {
        int fall = r.nextInt(7);
        int slips = r.nextInt(13);
        int ways = r.nextInt(r.nextBoolean() ? 100 : 1000000001);
        for (int q = 0; q < 4; q++) {
            due("able", m.ableBits(m.life, p, q), x.able(p, q));
            if (m.need[p][q] > 0) {
                due("lacking", m.lacking(p, q), x.lacking(p, q));
            }
        }
        due("moved", m.moved(p), x.moved(p));
        due("spare", m.spare(p), x.spare(p));
        due("ransom", m.ransom(p), x.ransom(p));
        due("codes", m.codes(p, slips), x.codes(p, slips));
        due("slips", m.slips(p, ways), x.slips(p, ways));
        due("casts", m.casts(p), x.casts(p));
        due("transposed", m.transposed(p), x.transposed(p));
        due("lost", m.lost(p), x.lost(p));
        for (int what = 0; what < 2; what++) {
            due("luck", m.luck(p, fall, what), x.luck(p, fall, what));
            due("cast", m.cast(p, what), x.cast(p, what));
            due("widen", m.widen(p, what), x.widen(p, what));
        }
    }

    private static void due(String what, long want, long got) {
        CHECK.due(what, want, got);
    }
}
