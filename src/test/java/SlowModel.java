import java.util.ArrayList;
import java.util.List;
import java.util.Random;

/** The document's terms told again, as slowly and as plainly as can be, for a valley made at random. */
final class SlowModel {
    int n;
    final int[] side = new int[14];
    final int[] part = new int[14];
    final int[] low = new int[14];
    final int[] high = new int[14];
    final int[] skill = new int[14];
    int pieces;
    final int[][] need = new int[5][4];
    final int[][][] notes = new int[5][4][0];
    int every = 4;
    final SlowRule[] rules = new SlowRule[4];
    String text = "";

    Life life;
    List<Life> acts = new ArrayList<>();
    List<int[]> heard = new ArrayList<>();
    private Life imageLife;
    private List<Life> imageActs;
    private List<int[]> imageHeard;

    static final class Life {
        int[] how = new int[14];
        int day;
        int sung;

        Life copy() {
            Life other = new Life();
            other.how = how.clone();
            other.day = day;
            other.sung = sung;
            return other;
        }
    }

    private static final String[] SIDES = {"north", "south", "neutral"};
    private static final String[] PARTS = {"soprano", "alto", "tenor", "bass"};

    static SlowModel make(Random r, int mostSingers) {
        while (true) {
            SlowModel m = new SlowModel();
            m.fill(r, mostSingers);
            if (m.text.length() <= 700) {
                return m;
            }
        }
    }

    private void fill(Random r, int mostSingers) {
        int parts = 1 + r.nextInt(4);
        int wide = r.nextBoolean() ? 48 : 30;
        n = r.nextInt(mostSingers + 1);
        pieces = r.nextInt(6);
        List<String> lines = new ArrayList<>();
        for (int i = 0; i < n; i++) {
            side[i] = r.nextInt(5) == 0 ? 2 : r.nextInt(2);
            part[i] = r.nextInt(parts);
            low[i] = r.nextInt(wide == 48 ? 10 : 20);
            high[i] = Math.min(48, low[i] + r.nextInt(wide));
            skill[i] = r.nextInt(10);
            lines.add(SIDES[side[i]] + " " + PARTS[part[i]] + " " + low[i] + " " + high[i] + " "
                + skill[i] + ";");
        }
        int at = 0;
        for (int p = 0; p < pieces; p++) {
            at = addLine(lines, r, at, "piece;");
            for (int q = 0; q < 4; q++) {
                if (r.nextInt(parts == 1 && q == 0 ? 6 : 3) != 0 && q < parts + (r.nextInt(9) == 0 ? 1 : 0)) {
                    at = addLine(lines, r, at, makeRow(r, p, q));
                }
            }
        }
        if (r.nextInt(3) != 0) {
            every = 1 + r.nextInt(9);
            addLine(lines, r, r.nextInt(lines.size() + 1), "every " + every + ";");
        }
        for (int i = 0; i < 4; i++) {
            if (r.nextInt(3) != 0) {
                rules[i] = SlowRule.make(r, i < 2, 60);
                addLine(lines, r, r.nextInt(lines.size() + 1), (i < 2 ? "truce " : "aim ")
                    + SIDES[i % 2] + " " + rules[i].text + ";");
            }
        }
        text = String.join(r.nextBoolean() ? "" : "\n", lines);
        life = new Life();
    }

    private String makeRow(Random r, int p, int q) {
        need[p][q] = r.nextInt(3) != 0 ? 1 : 1 + r.nextInt(4);
        int many = r.nextInt(3) == 0 ? 1 + r.nextInt(12) : 1 + r.nextInt(2);
        notes[p][q] = new int[many];
        StringBuilder out = new StringBuilder(PARTS[q] + " " + need[p][q]);
        int middle = 8 + r.nextInt(20);
        for (int i = 0; i < many; i++) {
            int note = r.nextInt(12) == 0 ? r.nextInt(49) : middle + r.nextInt(8) - 4;
            notes[p][q][i] = Math.max(0, Math.min(48, note));
            out.append(' ').append(notes[p][q][i]);
        }
        return out.append(';').toString();
    }

    /** Lines of singers and rules may stand anywhere; those of pieces keep their order. */
    private static int addLine(List<String> lines, Random r, int from, String line) {
        int at = from + r.nextInt(lines.size() - from + 1);
        lines.add(at, line);
        return at + 1;
    }

    // ---- what can be sung

    boolean canSing(Life l, int s, int p, int q) {
        if (need[p][q] == 0 || l.how[s] != 0 || part[s] != q) {
            return false;
        }
        for (int note : notes[p][q]) {
            if (note < low[s] || note > high[s]) {
                return false;
            }
        }
        return true;
    }

    int ableBits(Life l, int p, int q) {
        int bits = 0;
        for (int s = 0; s < n; s++) {
            bits |= canSing(l, s, p, q) ? 1 << s : 0;
        }
        return bits;
    }

    boolean canBeSung(Life l, int p) {
        int rows = 0;
        for (int q = 0; q < 4; q++) {
            if (need[p][q] > 0) {
                rows++;
                if (Integer.bitCount(ableBits(l, p, q)) < need[p][q]) {
                    return false;
                }
            }
        }
        return rows > 0;
    }

    int singable(Life l) {
        int bits = 0;
        for (int p = 0; p < pieces; p++) {
            bits |= canBeSung(l, p) ? 1 << p : 0;
        }
        return bits;
    }

    int singableMany(Life l) {
        return Integer.bitCount(singable(l));
    }

    int bits(Life l, int how) {
        int bits = 0;
        for (int s = 0; s < n; s++) {
            bits |= l.how[s] == how ? 1 << s : 0;
        }
        return bits;
    }

    Life with(int set, int how) {
        Life other = life.copy();
        for (int s = 0; s < n; s++) {
            if ((set >> s & 1) != 0) {
                other.how[s] = how;
            }
        }
        return other;
    }

    // ---- days

    private int many(Life l, int ofSide, int how) {
        int many = 0;
        for (int s = 0; s < n; s++) {
            many += side[s] == ofSide && l.how[s] == how ? 1 : 0;
        }
        return many;
    }

    boolean holds(Life l, int of) {
        return rules[of] != null && rules[of].give(new int[] {l.day, l.sung, many(l, of, 0),
            many(l, 1 - of, 0), many(l, of, 2), singableMany(l)}) > 0;
    }

    int aimed(Life l, int of) {
        int best = -1;
        long most = Long.MIN_VALUE;
        for (int s = 0; s < n; s++) {
            if (side[s] == 1 - of && l.how[s] == 0) {
                int tone = 0;
                for (int t = 0; t < n; t++) {
                    tone += l.how[t] == 0 && part[t] == part[s] ? 1 : 0;
                }
                int worth = rules[2 + of] == null ? skill[s]
                    : rules[2 + of].give(new int[] {skill[s], part[s], s, tone});
                if (worth > most) {
                    most = worth;
                    best = s;
                }
            }
        }
        return best;
    }

    int pass(Life l) {
        int fell = 0;
        if (l.day % every == 0 && singable(l) != 0) {
            l.sung++;
        } else {
            int atSouth = holds(l, 0) ? -1 : aimed(l, 0);
            int atNorth = holds(l, 1) ? -1 : aimed(l, 1);
            for (int who : new int[] {atSouth, atNorth}) {
                if (who >= 0) {
                    l.how[who] = 2;
                    fell++;
                }
            }
        }
        l.day++;
        return fell;
    }

    int peace() {
        Life l = life.copy();
        int days = 0;
        while (days < 99 && pass(l) == 0) {
            days++;
        }
        return days;
    }

    int silent() {
        Life l = life.copy();
        for (int i = 0; i < 99; i++, pass(l)) {
            if (l.day % every == 0 && singable(l) == 0) {
                return l.day;
            }
        }
        return -1;
    }

    int lost(int p) {
        Life l = life.copy();
        for (int i = 0; i < 99; i++, pass(l)) {
            if (!canBeSung(l, p)) {
                return l.day;
            }
        }
        return -1;
    }

    int gone(int of) {
        Life l = life.copy();
        for (int i = 0; i < 99; i++, pass(l)) {
            if (many(l, of, 0) == 0) {
                return l.day;
            }
        }
        return -1;
    }

    int falls(int days) {
        Life l = life.copy();
        int fell = 0;
        for (int i = 0; i < days; i++) {
            fell += pass(l);
        }
        return fell;
    }

    int held(int of, int days) {
        Life l = life.copy();
        int held = 0;
        for (int i = 0; i < days; i++, pass(l)) {
            held += holds(l, of) ? 1 : 0;
        }
        return held;
    }

    int wars(int seed, int days, int what) {
        Life l = life.copy();
        long s = seed;
        for (int i = 0; i < days; i++) {
            if (n > 0) {
                s = (s * 1103515245L + 12345L) & 0xffffffffL;
                int who = (int) ((s >> 16 & 0x7fff) % n);
                l.how[who] = l.how[who] == 2 ? 2 : 1 - l.how[who];
            }
            pass(l);
        }
        return what == 0 ? Integer.bitCount(bits(l, 2)) : what == 1 ? l.sung - life.sung
            : singableMany(l);
    }

    // ---- acts

    void act() {
        acts.add(life.copy());
        if (acts.size() > 40) {
            acts.remove(0);
        }
    }

    int days(int many) {
        if (many < 1 || many > 30 || life.day + many > 999) {
            return -1;
        }
        act();
        for (int i = 0; i < many; i++) {
            pass(life);
        }
        return life.day;
    }

    boolean change(int s, int from, int to) {
        if (life.how[s] != from) {
            return false;
        }
        act();
        life.how[s] = to;
        return true;
    }

    boolean exchange(int a, int b) {
        if (side[a] != 0 || side[b] != 1 || life.how[a] != 1 || life.how[b] != 1) {
            return false;
        }
        act();
        life.how[a] = 0;
        life.how[b] = 0;
        return true;
    }

    int undo() {
        if (acts.isEmpty()) {
            return -1;
        }
        life = acts.remove(acts.size() - 1).copy();
        return acts.size();
    }

    void image() {
        imageLife = life.copy();
        imageActs = new ArrayList<>(acts);
        imageHeard = new ArrayList<>(heard);
    }

    boolean restore() {
        if (imageLife == null) {
            return false;
        }
        life = imageLife.copy();
        acts = new ArrayList<>();
        for (Life l : imageActs) {
            acts.add(l.copy());
        }
        heard = new ArrayList<>(imageHeard);
        return true;
    }

    // ---- what is asked of the choir

    int moved(int p) {
        int sum = 0;
        int rows = 0;
        for (int q = 0; q < 4; q++) {
            if (need[p][q] == 0) {
                continue;
            }
            rows++;
            int best = 99;
            for (int set = 0; set < 1 << n; set++) {
                if (Integer.bitCount(set) == need[p][q]) {
                    best = Math.min(best, movedFor(set, p, q));
                }
            }
            if (best == 99) {
                return -1;
            }
            sum += best;
        }
        return rows == 0 ? -1 : sum;
    }

    private int movedFor(int set, int p, int q) {
        for (int s = 0; s < n; s++) {
            if ((set >> s & 1) != 0 && (life.how[s] != 0 || part[s] != q)) {
                return 99;
            }
        }
        int moves = 0;
        for (int note : notes[p][q]) {
            if (!allHave(set, note)) {
                if (!allHave(set, note + 12) && !allHave(set, note - 12)) {
                    return 99;
                }
                moves++;
            }
        }
        return moves;
    }

    private boolean allHave(int set, int note) {
        for (int s = 0; s < n; s++) {
            if ((set >> s & 1) != 0 && (note < low[s] || note > high[s])) {
                return false;
            }
        }
        return true;
    }

    /** By its meaning: the most whose loss, whoever they are, leaves it to be sung. */
    int spare(int p) {
        int free = bits(life, 0);
        int best = -1;
        for (int k = 0; k <= n; k++) {
            for (int set = 0; set < 1 << n; set++) {
                if ((set & ~free) == 0 && Integer.bitCount(set) == k && !canBeSung(with(set, 2), p)) {
                    return best;
                }
            }
            best = k;
        }
        return best;
    }

    int keys() {
        int keys = 0;
        for (int s = 0; s < n; s++) {
            if (life.how[s] == 0 && singableMany(with(1 << s, 2)) < singableMany(life)) {
                keys |= 1 << s;
            }
        }
        return keys;
    }

    int ransom(int p) {
        for (int k = 0; k <= 7; k++) {
            for (int set = 0; set < 1 << n; set++) {
                int north = 0;
                int south = 0;
                int wrong = 0;
                for (int s = 0; s < n; s++) {
                    if ((set >> s & 1) != 0) {
                        north += side[s] == 0 ? 1 : 0;
                        south += side[s] == 1 ? 1 : 0;
                        wrong += side[s] == 2 || life.how[s] != 1 ? 1 : 0;
                    }
                }
                if (wrong == 0 && north == k && south == k && canBeSung(with(set, 0), p)) {
                    return set;
                }
            }
        }
        return -1;
    }

    int bargain() {
        int best = -1;
        int most = singableMany(life);
        for (int a = 0; a < n; a++) {
            for (int b = 0; b < n; b++) {
                if (side[a] == 0 && side[b] == 1 && life.how[a] == 1 && life.how[b] == 1) {
                    int many = singableMany(with(1 << a | 1 << b, 0));
                    if (many > most) {
                        most = many;
                        best = 100 * a + b;
                    }
                }
            }
        }
        return best;
    }

    /** Seats, one after the other, each taken by anybody who can and has none yet. */
    boolean together(int set) {
        List<int[]> seats = new ArrayList<>();
        for (int p = 0; p < pieces; p++) {
            if ((set >> p & 1) != 0) {
                if (!canBeSung(life, p)) {
                    return false;
                }
                for (int q = 0; q < 4; q++) {
                    for (int i = 0; i < need[p][q]; i++) {
                        seats.add(new int[] {p, q});
                    }
                }
            }
        }
        return seats.size() <= n && seat(seats, 0, 0);
    }

    private boolean seat(List<int[]> seats, int i, int used) {
        if (i == seats.size()) {
            return true;
        }
        for (int s = 0; s < n; s++) {
            if ((used >> s & 1) == 0 && canSing(life, s, seats.get(i)[0], seats.get(i)[1])
                && seat(seats, i + 1, used | 1 << s)) {
                return true;
            }
        }
        return false;
    }

    int duet() {
        for (int a = 0; a < pieces; a++) {
            for (int b = a + 1; b < pieces; b++) {
                if (together(1 << a | 1 << b)) {
                    return 10 * a + b;
                }
            }
        }
        return -1;
    }

    int evening() {
        int best = 0;
        for (int set = 0; set < 1 << pieces; set++) {
            if (Integer.bitCount(set) > Integer.bitCount(best) && together(set)) {
                best = set;
            }
        }
        return best;
    }

    int luck(int p, int fall, int what) {
        int free = bits(life, 0);
        int good = 0;
        int all = 0;
        for (int set = 0; set < 1 << n; set++) {
            if ((set & ~free) == 0 && Integer.bitCount(set) == fall) {
                all++;
                good += canBeSung(with(set, 2), p) ? 1 : 0;
            }
        }
        if (good == 0) {
            return what;
        }
        for (int d = good; d > 1; d--) {
            if (good % d == 0 && all % d == 0) {
                good /= d;
                all /= d;
            }
        }
        return what == 0 ? good : all;
    }

    long codes(int p, int slips) {
        long[] ways = new long[60];
        ways[0] = 1;
        for (int q = 0; q < 4; q++) {
            for (int i = 0; i < notes[p][q].length; i++) {
                for (int k = 59; k > 0; k--) {
                    ways[k] += 2 * ways[k - 1];
                }
            }
        }
        long sum = 0;
        for (int k = 0; k <= slips; k++) {
            sum += ways[k];
        }
        return sum;
    }

    int slips(int p, int many) {
        for (int k = 0; k <= 12; k++) {
            if (codes(p, k) >= many) {
                return k;
            }
        }
        return -1;
    }

    int flat(int what) {
        int many = 0;
        int first = -1;
        for (int s = 0; s < n; s++) {
            for (int by = 1; by <= 5; by++) {
                boolean fits = true;
                for (int[] h : heard) {
                    int due = notes[h[0]][h[1]][h[2]] - (canSing(life, s, h[0], h[1]) ? by : 0);
                    fits &= due == h[3];
                }
                if (fits) {
                    first = many == 0 ? 10 * s + by : first;
                    many++;
                }
            }
        }
        boolean asTold = true;
        for (int[] h : heard) {
            asTold &= notes[h[0]][h[1]][h[2]] == h[3];
        }
        return what == 0 ? many : what == 1 ? first : asTold ? 1 : 0;
    }

    private int gain(int of, int north, int south, int much) {
        Life l = life.copy();
        int atSouth = aimed(life, 0);
        int atNorth = aimed(life, 1);
        if (north == 0 && atSouth >= 0) {
            l.how[atSouth] = 2;
        }
        if (south == 0 && atNorth >= 0) {
            l.how[atNorth] = 2;
        }
        int sum = singableMany(l) == singableMany(life) ? much : 0;
        for (int s = 0; s < n; s++) {
            if (l.how[s] == 0 && side[s] != 2) {
                sum += side[s] == of ? skill[s] : -skill[s];
            }
        }
        return sum;
    }

    int game(int much, int what) {
        int many = 0;
        int first = -1;
        for (int a = 0; a < 2; a++) {
            for (int b = 0; b < 2; b++) {
                if (gain(0, a, b, much) >= gain(0, 1 - a, b, much)
                    && gain(1, a, b, much) >= gain(1, a, 1 - b, much)) {
                    first = many == 0 ? 10 * a + b : first;
                    many++;
                }
            }
        }
        return what == 0 ? many : first;
    }

    int cast(int p, int what) {
        if (!canBeSung(life, p)) {
            return -1;
        }
        int chosen = 0;
        int sum = 0;
        for (int q = 0; q < 4; q++) {
            List<Integer> who = new ArrayList<>();
            for (int s = 0; s < n; s++) {
                if (canSing(life, s, p, q)) {
                    who.add(s);
                }
            }
            who.sort((a, b) -> skill[a] != skill[b] ? skill[b] - skill[a] : a - b);
            for (int i = 0; i < need[p][q]; i++) {
                chosen |= 1 << who.get(i);
                sum += skill[who.get(i)];
            }
        }
        return what == 0 ? chosen : sum;
    }

    /** By counting sets of singers: every cast is one, as nobody has two parts. */
    long casts(int p) {
        if (!canBeSung(life, p)) {
            return 0;
        }
        long many = 0;
        for (int set = 0; set < 1 << n; set++) {
            int rest = set;
            boolean fits = true;
            for (int q = 0; q < 4; q++) {
                int able = ableBits(life, p, q);
                fits &= Integer.bitCount(set & able) == need[p][q];
                rest &= ~able;
            }
            many += fits && rest == 0 ? 1 : 0;
        }
        return many;
    }

    int transposed(int p) {
        int best = -99;
        for (int t = 12; t >= -12; t--) {
            if (Math.abs(t) <= Math.abs(best) && fitsAt(p, t)) {
                best = t;
            }
        }
        return best;
    }

    private boolean fitsAt(int p, int t) {
        SlowModel other = new SlowModel();
        other.n = n;
        System.arraycopy(part, 0, other.part, 0, 14);
        System.arraycopy(low, 0, other.low, 0, 14);
        System.arraycopy(high, 0, other.high, 0, 14);
        for (int q = 0; q < 4; q++) {
            other.need[p][q] = need[p][q];
            other.notes[p][q] = notes[p][q].clone();
            for (int i = 0; i < notes[p][q].length; i++) {
                other.notes[p][q][i] += t;
                if (other.notes[p][q][i] < 0 || other.notes[p][q][i] > 48) {
                    return false;
                }
            }
        }
        return other.canBeSung(life, p);
    }

    int standIns(int s) {
        int bits = 0;
        for (int t = 0; t < n; t++) {
            bits |= t != s && part[t] == part[s] && low[t] <= low[s] && high[t] >= high[s] ? 1 << t : 0;
        }
        return bits;
    }

    int voices(int of, int q) {
        int many = 0;
        for (int s = 0; s < n; s++) {
            many += side[s] == of && part[s] == q && life.how[s] == 0 ? 1 : 0;
        }
        return many;
    }

    int lacking(int p, int q) {
        int able = Integer.bitCount(ableBits(life, p, q));
        return able >= need[p][q] ? 0 : need[p][q] - able;
    }

    /** By widening each one, step by step, down and up. */
    int widen(int p, int what) {
        if (canBeSung(life, p)) {
            return what == 0 ? 0 : -1;
        }
        for (int sum = 1; sum <= 96; sum++) {
            for (int s = 0; s < n; s++) {
                if (life.how[s] != 0) {
                    continue;
                }
                for (int down = 0; down <= sum; down++) {
                    low[s] -= down;
                    high[s] += sum - down;
                    boolean can = canBeSung(life, p);
                    low[s] += down;
                    high[s] -= sum - down;
                    if (can) {
                        return what == 0 ? sum : s;
                    }
                }
            }
        }
        return -1;
    }

    int rows(int s) {
        int many = 0;
        for (int p = 0; p < pieces; p++) {
            for (int q = 0; q < 4; q++) {
                many += canSing(life, s, p, q) ? 1 : 0;
            }
        }
        return many;
    }
}
