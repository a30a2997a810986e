import java.util.NoSuchElementException;

/**
 * Two sides of a valley, the singers among them and the pieces for which they cease fire.
 * Every set of singers, and every set of pieces, is an int of bits; all rows are made once,
 * with the object, so that no call makes anything.
 */
public final class ValleyMass {
    public static final int NONE = -1;

    private static final int TAPE_MOST = 700;
    private static final int FEED_BYTES = 20;
    private static final int SINGERS_MOST = 14;
    private static final int SIDES = 3;
    private static final int NEUTRAL = 2;
    private static final int PIECES_MOST = 5;
    private static final int PIECE_SETS = 1 << PIECES_MOST;
    private static final int PARTS = 4;
    private static final int ROWS_MOST = PIECES_MOST * PARTS;
    private static final int NOTES_MOST = 12;
    private static final int NEED_MOST = 4;
    private static final int NUMBER_TOP = 9999;
    private static final int NOTE_TOP = 48;
    private static final int OCTAVE = 12;
    private static final int SKILL_TOP = 9;
    private static final int EVERY_TOP = 9;
    private static final int EVERY_USUAL = 4;

    private static final int DAYS_AT_ONCE = 30;
    private static final int DAY_LAST = 999;
    private static final int DAYS_AHEAD = 99;
    private static final int WAR_DAYS = 60;
    private static final int ACTS_MOST = 40;
    private static final int HEARD_MOST = 8;
    private static final int HEARD_TOP = 60;
    private static final int FLAT_MOST = 5;
    private static final int SLIPS_MOST = 12;
    private static final int WAYS_MOST = 1000000000;
    private static final int GAME_TOP = 99;
    private static final int NO_SHIFT = -99;

    private static final int REFUSED_TEXT = 0;
    private static final int REFUSED_ACT = 1;
    private static final int REFUSED_HEARD = 2;
    private static final int REFUSALS = 3;

    private final int[] refused = new int[REFUSALS];
    private final int[] ways = new int[SINGERS_MOST + 1];
    private final Reader reader = new Reader();
    private final Chronicle story = new Chronicle();
    private final Chronicle kept = new Chronicle();
    private final State trial = new State();
    private Valley told = new Valley();
    private Valley draft = new Valley();
    private int faultPlace = NONE;
    private boolean imageKept;

    public ValleyMass() {
    }

    // ---- the tape and the text

    public int feed(int a, int b, int c, int d, int e) {
        Tape tape = reader.tape;
        if (tape.fed > TAPE_MOST - FEED_BYTES) {
            return NONE;
        }
        tape.put(a);
        tape.put(b);
        tape.put(c);
        tape.put(d);
        tape.put(e);
        return tape.fed;
    }

    public int valley(int n) throws IllegalArgumentException {
        if (n < 0 || n > reader.tape.fed) {
            throw new IllegalArgumentException("the tape has not so many bytes");
        }
        int fault = reader.read(n, draft);
        reader.tape.fed = 0;
        if (fault != 0) {
            faultPlace = reader.place();
            refused[REFUSED_TEXT]++;
            return fault;
        }
        Valley old = told;
        told = draft;
        draft = old;
        faultPlace = NONE;
        imageKept = false;
        story.begin((1 << told.singers) - 1);
        return 0;
    }

    public int fault() {
        return faultPlace;
    }

    // ---- what there is

    public int count(int what) throws NoSuchElementException {
        State now = story.now;
        switch (what) {
            case 0: return told.singers;
            case 1: return told.pieces;
            case 2: return told.every;
            case 3: return now.day;
            case 4: return now.sung;
            case 5: return now.free;
            case 6: return now.caught;
            case 7: return now.fallen;
            case 8: return told.singable(now.free);
            case 9: return story.acts;
            case 10: return story.heard;
            case 11: return reader.tape.fed;
            case 12: return refused[REFUSED_TEXT];
            case 13: return refused[REFUSED_ACT];
            case 14: return refused[REFUSED_HEARD];
            default: throw new NoSuchElementException("no such count");
        }
    }

    public int singer(int singer, int what) throws NoSuchElementException {
        checkSinger(singer);
        switch (what) {
            case 0: return told.side[singer];
            case 1: return told.part[singer];
            case 2: return told.lowest[singer];
            case 3: return told.highest[singer];
            case 4: return told.skill[singer];
            case 5: return story.now.howIs(singer);
            default: throw new NoSuchElementException("no such thing of a singer");
        }
    }

    public int row(int piece, int part, int i) throws NoSuchElementException {
        checkRow(piece, part);
        int row = piece * PARTS + part;
        if (i == NONE) {
            return told.need[row];
        }
        if (i == -2) {
            return told.length[row];
        }
        if (i < 0 || i >= told.length[row] || i >= NOTES_MOST) {
            throw new NoSuchElementException("no such note");
        }
        return told.notes[row * NOTES_MOST + i];
    }

    public int able(int piece, int part) throws NoSuchElementException {
        checkRow(piece, part);
        return told.fitting[piece * PARTS + part] & story.now.free;
    }

    public int standIns(int singer) throws NoSuchElementException {
        checkSinger(singer);
        int others = told.ofPart(told.part[singer]) & ~(1 << singer);
        return told.reaching(others, told.lowest[singer], told.highest[singer]);
    }

    public int voices(int side, int part) throws NoSuchElementException {
        if (side < 0 || side >= SIDES) {
            throw new NoSuchElementException("no such side");
        }
        checkPart(part);
        return Integer.bitCount(told.ofSide(side) & told.ofPart(part) & story.now.free);
    }

    public int rows(int singer) throws NoSuchElementException {
        checkSinger(singer);
        int bit = 1 << singer & story.now.free;
        int many = 0;
        for (int row = 0; row < ROWS_MOST; row++) {
            if ((told.fitting[row] & bit) != 0) {
                many++;
            }
        }
        return many;
    }

    // ---- acts

    public int days(int many) {
        if (many < 1 || many > DAYS_AT_ONCE || story.now.day + many > DAY_LAST) {
            refused[REFUSED_ACT]++;
            return NONE;
        }
        story.keepAct();
        for (int i = 0; i < many; i++) {
            War.passDay(told, story.now);
        }
        return story.now.day;
    }

    public boolean fall(int singer) throws NoSuchElementException {
        checkSinger(singer);
        int bit = 1 << singer;
        if (!mayAct((story.now.free & bit) != 0)) {
            return false;
        }
        story.now.fell(bit);
        return true;
    }

    public boolean catches(int singer) throws NoSuchElementException {
        checkSinger(singer);
        int bit = 1 << singer;
        if (!mayAct((story.now.free & bit) != 0)) {
            return false;
        }
        story.now.seize(bit);
        return true;
    }

    public boolean release(int singer) throws NoSuchElementException {
        checkSinger(singer);
        int bit = 1 << singer;
        if (!mayAct((story.now.caught & bit) != 0)) {
            return false;
        }
        story.now.letGo(bit);
        return true;
    }

    public boolean exchange(int north, int south) throws NoSuchElementException {
        checkSinger(north);
        checkSinger(south);
        int caught = story.now.caught;
        boolean fit = (told.ofSide(0) & caught & 1 << north) != 0
            && (told.ofSide(1) & caught & 1 << south) != 0;
        if (!mayAct(fit)) {
            return false;
        }
        story.now.letGo(1 << north | 1 << south);
        return true;
    }

    /** An ACT that is fit is kept, ahead of what it does; one that isn't is counted as refused. */
    private boolean mayAct(boolean fit) {
        if (fit) {
            story.keepAct();
        } else {
            refused[REFUSED_ACT]++;
        }
        return fit;
    }

    public int undo() {
        if (story.acts <= 0) {
            return NONE;
        }
        story.takeBack();
        return story.acts;
    }

    public void image() {
        kept.copyFrom(story);
        imageKept = true;
    }

    public boolean restore() {
        if (imageKept) {
            story.copyFrom(kept);
        }
        return imageKept;
    }

    // ---- what can be sung now

    public int moved(int piece) throws NoSuchElementException {
        checkPiece(piece);
        return Choir.fewestMoves(told, story.now.free, piece);
    }

    public int spare(int piece) throws NoSuchElementException {
        checkPiece(piece);
        return Choir.sparable(told, story.now.free, piece);
    }

    public int keys() {
        return Choir.keySingers(told, story.now.free);
    }

    public int ransom(int piece) throws NoSuchElementException {
        checkPiece(piece);
        return Choir.ransomed(told, story.now, piece);
    }

    public int bargain() {
        return Choir.bestExchange(told, story.now);
    }

    public int duet() {
        for (int first = 0; first < PIECES_MOST; first++) {
            for (int second = first + 1; second < PIECES_MOST; second++) {
                if (Choir.together(told, story.now.free, 1 << first | 1 << second)) {
                    return 10 * first + second;
                }
            }
        }
        return NONE;
    }

    public int evening() {
        int best = 0;
        for (int set = 1; set < PIECE_SETS; set++) {
            boolean more = Integer.bitCount(set) > Integer.bitCount(best);
            if (more && Choir.together(told, story.now.free, set)) {
                best = set;
            }
        }
        return best;
    }

    public int cast(int piece, int what) throws NoSuchElementException {
        checkPiece(piece);
        if (what < 0 || what > 1) {
            throw new NoSuchElementException("no such thing of a cast");
        }
        if (!told.canBeSung(piece, story.now.free)) {
            return NONE;
        }
        int chosen = Choir.bestCast(told, story.now.free, piece);
        return what == 0 ? chosen : told.skillsOf(chosen);
    }

    public long casts(int piece) throws NoSuchElementException {
        checkPiece(piece);
        return Choir.countCasts(told, story.now.free, piece);
    }

    public int transposed(int piece) throws NoSuchElementException {
        checkPiece(piece);
        for (int by = 0; by <= OCTAVE; by++) {
            if (Choir.canBeSungAt(told, story.now.free, piece, -by)) {
                return -by;
            }
            if (Choir.canBeSungAt(told, story.now.free, piece, by)) {
                return by;
            }
        }
        return NO_SHIFT;
    }

    public int lacking(int piece, int part) throws NoSuchElementException {
        checkRow(piece, part);
        int row = piece * PARTS + part;
        if (told.need[row] == 0) {
            throw new NoSuchElementException("no such row");
        }
        return told.lackingIn(row, story.now.free);
    }

    public int widen(int piece, int what) throws NoSuchElementException {
        checkPiece(piece);
        if (what < 0 || what > 1) {
            throw new NoSuchElementException("no such thing of widening");
        }
        if (told.canBeSung(piece, story.now.free)) {
            return what == 0 ? 0 : NONE;
        }
        int row = Choir.rowLackingOne(told, story.now.free, piece);
        if (row == NONE) {
            return NONE;
        }
        int who = Choir.easiestToWiden(told, story.now.free, row);
        return what == 0 && who != NONE ? told.stretch(row, who) : who;
    }

    // ---- chances and codes

    public int luck(int piece, int fall, int what)
            throws NoSuchElementException, IllegalArgumentException {
        checkPiece(piece);
        if (what < 0 || what > 1) {
            throw new NoSuchElementException("no such part of a fraction");
        }
        if (fall < 0 || fall > SINGERS_MOST) {
            throw new IllegalArgumentException("not so many can fall");
        }
        int free = story.now.free;
        long good = Choir.setsOutlived(told, free, piece, fall, ways);
        if (good == 0) {
            return what;
        }
        long all = Counting.choose(Integer.bitCount(free), fall);
        long common = Counting.commonDivisor(good, all);
        if (common == 0) {
            return what;
        }
        return (int) ((what == 0 ? good : all) / common);
    }

    public long codes(int piece, int slips)
            throws NoSuchElementException, IllegalArgumentException {
        checkPiece(piece);
        if (slips < 0 || slips > SLIPS_MOST) {
            throw new IllegalArgumentException("not so many slips");
        }
        return Counting.slipWays(told.notesIn(piece), slips);
    }

    public int slips(int piece, int many)
            throws NoSuchElementException, IllegalArgumentException {
        checkPiece(piece);
        if (many < 0 || many > WAYS_MOST) {
            throw new IllegalArgumentException("not so many ways");
        }
        int notes = told.notesIn(piece);
        for (int slips = 0; slips <= SLIPS_MOST; slips++) {
            if (Counting.slipWays(notes, slips) >= many) {
                return slips;
            }
        }
        return NONE;
    }

    // ---- what was heard

    public int hear(int piece, int part, int i, int note) throws NoSuchElementException {
        checkRow(piece, part);
        int row = piece * PARTS + part;
        boolean noNote = i < 0 || i >= told.length[row];
        if (story.heard >= HEARD_MOST || noNote || note < 0 || note > HEARD_TOP) {
            refused[REFUSED_HEARD]++;
            return NONE;
        }
        story.addHeard(row, told.notes[row * NOTES_MOST + i], note);
        return story.heard;
    }

    public int flat(int what) throws NoSuchElementException {
        if (what < 0 || what > 2) {
            throw new NoSuchElementException("no such thing of who is flat");
        }
        if (what == 2) {
            return allHeardIsSo(0, 0) ? 1 : 0;
        }
        int many = 0;
        for (int singer = 0; singer < told.singers; singer++) {
            for (int by = 1; by <= FLAT_MOST; by++) {
                if (allHeardIsSo(1 << singer, by)) {
                    if (what == 1) {
                        return 10 * singer + by;
                    }
                    many++;
                }
            }
        }
        return what == 0 ? many : NONE;
    }

    private boolean allHeardIsSo(int bit, int by) {
        for (int i = 0; i < story.heard && i < HEARD_MOST; i++) {
            int row = story.heardRow[i];
            if (row < 0 || row >= ROWS_MOST) {
                return false;
            }
            boolean sings = (told.fitting[row] & story.now.free & bit) != 0;
            int due = sings ? story.heardTold[i] - by : story.heardTold[i];
            if (story.heardNote[i] != due) {
                return false;
            }
        }
        return true;
    }

    public void forget() {
        story.heard = 0;
    }

    // ---- the days to come

    public boolean holds(int side) throws NoSuchElementException {
        checkWarring(side);
        return War.holdsFire(told, story.now, side);
    }

    public int aimed(int side) throws NoSuchElementException {
        checkWarring(side);
        return War.target(told, story.now, side);
    }

    public int peace() {
        trial.copyFrom(story.now);
        for (int i = 0; i < DAYS_AHEAD; i++) {
            if (War.passDay(told, trial) != 0) {
                return i;
            }
        }
        return DAYS_AHEAD;
    }

    public int silent() {
        trial.copyFrom(story.now);
        for (int i = 0; i < DAYS_AHEAD; i++) {
            if (told.isEvening(trial.day) && told.singable(trial.free) == 0) {
                return trial.day;
            }
            War.passDay(told, trial);
        }
        return NONE;
    }

    public int falls(int days) throws IllegalArgumentException {
        checkDays(days);
        trial.copyFrom(story.now);
        int many = 0;
        for (int i = 0; i < days; i++) {
            many += Integer.bitCount(War.passDay(told, trial));
        }
        return many;
    }

    public int held(int side, int days)
            throws NoSuchElementException, IllegalArgumentException {
        checkWarring(side);
        checkDays(days);
        trial.copyFrom(story.now);
        int many = 0;
        for (int i = 0; i < days; i++) {
            if (War.holdsFire(told, trial, side)) {
                many++;
            }
            War.passDay(told, trial);
        }
        return many;
    }

    public int lost(int piece) throws NoSuchElementException {
        checkPiece(piece);
        trial.copyFrom(story.now);
        for (int i = 0; i < DAYS_AHEAD; i++) {
            if (!told.canBeSung(piece, trial.free)) {
                return trial.day;
            }
            War.passDay(told, trial);
        }
        return NONE;
    }

    public int gone(int side) throws NoSuchElementException {
        if (side < 0 || side >= SIDES) {
            throw new NoSuchElementException("no such side");
        }
        trial.copyFrom(story.now);
        for (int i = 0; i < DAYS_AHEAD; i++) {
            if ((told.ofSide(side) & trial.free) == 0) {
                return trial.day;
            }
            War.passDay(told, trial);
        }
        return NONE;
    }

    public int game(int much, int what)
            throws NoSuchElementException, IllegalArgumentException {
        if (what < 0 || what > 1) {
            throw new NoSuchElementException("no such thing of a game");
        }
        if (much < 0 || much > GAME_TOP) {
            throw new IllegalArgumentException("not so much can be gained");
        }
        int many = 0;
        for (int couple = 0; couple < 4; couple++) {
            if (War.coupleRests(told, story.now, couple >> 1, couple & 1, much)) {
                if (what == 1) {
                    return 10 * (couple >> 1) + (couple & 1);
                }
                many++;
            }
        }
        return what == 0 ? many : NONE;
    }

    public int wars(int seed, int n, int what)
            throws NoSuchElementException, IllegalArgumentException {
        if (what < 0 || what > 2) {
            throw new NoSuchElementException("no such thing of a war");
        }
        if (n < 0 || n > WAR_DAYS) {
            throw new IllegalArgumentException("not so many days");
        }
        trial.copyFrom(story.now);
        int draw = seed;
        for (int i = 0; i < n; i++) {
            if (told.singers > 0) {
                draw = draw * 1103515245 + 12345;
                trial.turn((draw >>> 16 & 32767) % told.singers);
            }
            War.passDay(told, trial);
        }
        switch (what) {
            case 0: return Integer.bitCount(trial.fallen);
            case 1: return trial.sung - story.now.sung;
            default: return Integer.bitCount(told.singable(trial.free));
        }
    }

    // ---- what calls may name

    private void checkSinger(int singer) {
        if (singer < 0 || singer >= told.singers || singer >= SINGERS_MOST) {
            throw new NoSuchElementException("no such singer");
        }
    }

    private void checkPiece(int piece) {
        if (piece < 0 || piece >= told.pieces || piece >= PIECES_MOST) {
            throw new NoSuchElementException("no such piece");
        }
    }

    private void checkPart(int part) {
        if (part < 0 || part >= PARTS) {
            throw new NoSuchElementException("no such part");
        }
    }

    private void checkRow(int piece, int part) {
        checkPiece(piece);
        checkPart(part);
    }

    private void checkWarring(int side) {
        if (side < 0 || side >= NEUTRAL) {
            throw new NoSuchElementException("no such side at war");
        }
    }

    private void checkDays(int days) {
        if (days < 0 || days > DAYS_AHEAD) {
            throw new IllegalArgumentException("not so many days");
        }
    }

    /** How many ways there are to choose and to slip. */
    private static final class Counting {
        private Counting() {
        }

        static long choose(int all, int some) {
            if (some < 0 || some > all) {
                return 0;
            }
            long many = 1;
            for (int i = 0; i < some; i++) {
                many = many * (all - i) / (i + 1);
            }
            return many;
        }

        static long slipWays(int notes, int slips) {
            long many = 0;
            for (int k = 0; k <= slips && k <= notes && k <= SLIPS_MOST; k++) {
                many += choose(notes, k) << k;
            }
            return many;
        }

        static long commonDivisor(long one, long other) {
            long a = one;
            long b = other;
            // Euclid's remainders at least halve every second time: 200 are plenty for longs.
            for (int i = 0; i < 200 && b != 0; i++) {
                long rest = a % b;
                a = b;
                b = rest;
            }
            return a;
        }
    }

    /** How all are on a DAY: three sets that share nobody. */
    private static final class State {
        static final int FIELDS = 5;
        int free;
        int caught;
        int fallen;
        int day;
        int sung;

        void begin(int all) {
            free = all;
            caught = 0;
            fallen = 0;
            day = 0;
            sung = 0;
        }

        void copyFrom(State other) {
            free = other.free;
            caught = other.caught;
            fallen = other.fallen;
            day = other.day;
            sung = other.sung;
        }

        void writeTo(int[] rows, int at) {
            if (at < 0 || at > rows.length - FIELDS) {
                return;
            }
            rows[at] = free;
            rows[at + 1] = caught;
            rows[at + 2] = fallen;
            rows[at + 3] = day;
            rows[at + 4] = sung;
        }

        void readFrom(int[] rows, int at) {
            if (at < 0 || at > rows.length - FIELDS) {
                return;
            }
            free = rows[at];
            caught = rows[at + 1];
            fallen = rows[at + 2];
            day = rows[at + 3];
            sung = rows[at + 4];
        }

        int howIs(int singer) {
            if ((free >> singer & 1) != 0) {
                return 0;
            }
            return (caught >> singer & 1) != 0 ? 1 : 2;
        }

        void fell(int bits) {
            free &= ~bits;
            fallen |= bits;
        }

        void seize(int bits) {
            free &= ~bits;
            caught |= bits;
        }

        void letGo(int bits) {
            caught &= ~bits;
            free |= bits;
        }

        /** What a DRAW of a war does to one. */
        void turn(int singer) {
            int how = howIs(singer);
            if (how == 0) {
                seize(1 << singer);
            } else if (how == 1) {
                letGo(1 << singer);
            }
        }
    }

    /** All that an image keeps: the state now, the ones ahead of each ACT, and what is HEARD. */
    private static final class Chronicle {
        final State now = new State();
        final int[] past = new int[ACTS_MOST * State.FIELDS];
        int acts;
        final int[] heardRow = new int[HEARD_MOST];
        final int[] heardTold = new int[HEARD_MOST];
        final int[] heardNote = new int[HEARD_MOST];
        int heard;

        void begin(int all) {
            now.begin(all);
            acts = 0;
            heard = 0;
        }

        void copyFrom(Chronicle other) {
            now.copyFrom(other.now);
            System.arraycopy(other.past, 0, past, 0, past.length);
            acts = other.acts;
            System.arraycopy(other.heardRow, 0, heardRow, 0, HEARD_MOST);
            System.arraycopy(other.heardTold, 0, heardTold, 0, HEARD_MOST);
            System.arraycopy(other.heardNote, 0, heardNote, 0, HEARD_MOST);
            heard = other.heard;
        }

        void keepAct() {
            if (acts >= ACTS_MOST) {
                System.arraycopy(past, State.FIELDS, past, 0, past.length - State.FIELDS);
                acts = ACTS_MOST - 1;
            }
            now.writeTo(past, acts * State.FIELDS);
            acts++;
        }

        void takeBack() {
            if (acts > 0) {
                acts--;
                now.readFrom(past, acts * State.FIELDS);
            }
        }

        void addHeard(int row, int told, int note) {
            if (heard >= 0 && heard < HEARD_MOST) {
                heardRow[heard] = row;
                heardTold[heard] = told;
                heardNote[heard] = note;
                heard++;
            }
        }
    }

    /** What a TEXT tells, and the sets of SINGERS that follow from it. */
    private static final class Valley {
        int singers;
        int pieces;
        int every = EVERY_USUAL;
        final int[] side = new int[SINGERS_MOST];
        final int[] part = new int[SINGERS_MOST];
        final int[] lowest = new int[SINGERS_MOST];
        final int[] highest = new int[SINGERS_MOST];
        final int[] skill = new int[SINGERS_MOST];
        final int[] need = new int[ROWS_MOST];
        final int[] length = new int[ROWS_MOST];
        final int[] notes = new int[ROWS_MOST * NOTES_MOST];
        final int[] bottom = new int[ROWS_MOST];
        final int[] top = new int[ROWS_MOST];
        /** Of each ROW who could sing it if he were FREE. */
        final int[] fitting = new int[ROWS_MOST];
        private final int[] sideSets = new int[SIDES];
        private final int[] partSets = new int[PARTS];
        final Rules rules = new Rules();

        void clear() {
            singers = 0;
            pieces = 0;
            every = EVERY_USUAL;
            for (int row = 0; row < ROWS_MOST; row++) {
                need[row] = 0;
                length[row] = 0;
                fitting[row] = 0;
            }
            rules.clear();
        }

        /** Once all is told, the sets are found that every later call asks for. */
        void settle() {
            for (int i = 0; i < SIDES; i++) {
                sideSets[i] = withValue(side, i);
            }
            for (int i = 0; i < PARTS; i++) {
                partSets[i] = withValue(part, i);
            }
            for (int row = 0; row < ROWS_MOST; row++) {
                if (need[row] > 0) {
                    spanRow(row);
                    fitting[row] = reaching(partSets[row % PARTS], bottom[row], top[row]);
                }
            }
        }

        private int withValue(int[] of, int value) {
            int set = 0;
            for (int i = 0; i < singers && i < of.length; i++) {
                if (of[i] == value) {
                    set |= 1 << i;
                }
            }
            return set;
        }

        private void spanRow(int row) {
            bottom[row] = NOTE_TOP;
            top[row] = 0;
            for (int i = 0; i < length[row] && i < NOTES_MOST; i++) {
                int note = notes[row * NOTES_MOST + i];
                bottom[row] = Math.min(bottom[row], note);
                top[row] = Math.max(top[row], note);
            }
        }

        int ofSide(int which) {
            return which >= 0 && which < SIDES ? sideSets[which] : 0;
        }

        int ofPart(int which) {
            return which >= 0 && which < PARTS ? partSets[which] : 0;
        }

        /** Those of a set whose range holds all from low to high. */
        int reaching(int set, int low, int high) {
            int found = 0;
            for (int i = 0; i < SINGERS_MOST; i++) {
                if ((set >> i & 1) != 0 && lowest[i] <= low && highest[i] >= high) {
                    found |= 1 << i;
                }
            }
            return found;
        }

        int skillsOf(int set) {
            int sum = 0;
            for (int i = 0; i < SINGERS_MOST; i++) {
                if ((set >> i & 1) != 0) {
                    sum += skill[i];
                }
            }
            return sum;
        }

        int notesIn(int piece) {
            int many = 0;
            for (int i = 0; i < PARTS; i++) {
                many += length[piece * PARTS + i];
            }
            return many;
        }

        boolean canBeSung(int piece, int free) {
            boolean some = false;
            for (int i = 0; i < PARTS; i++) {
                int row = piece * PARTS + i;
                if (need[row] > 0) {
                    if (Integer.bitCount(fitting[row] & free) < need[row]) {
                        return false;
                    }
                    some = true;
                }
            }
            return some;
        }

        int singable(int free) {
            int set = 0;
            for (int piece = 0; piece < PIECES_MOST; piece++) {
                if (canBeSung(piece, free)) {
                    set |= 1 << piece;
                }
            }
            return set;
        }

        int lackingIn(int row, int free) {
            return Math.max(0, need[row] - Integer.bitCount(fitting[row] & free));
        }

        /** By how much one's range must be wider to hold a ROW. */
        int stretch(int row, int singer) {
            return Math.max(0, lowest[singer] - bottom[row])
                + Math.max(0, top[row] - highest[singer]);
        }

        boolean isEvening(int day) {
            return every > 0 && day % every == 0;
        }
    }

    /** The four rules, each as a run of steps with the operator behind its operands. */
    private static final class Rules {
        static final int RULES = 4;
        static final int AIM_FIRST = 2;
        static final int VALUES = 6;
        /** Steps below this are NUMBERS, the next ones VALUES, the rest operators. */
        static final int STEP_VALUE = 10000;
        static final int STEP_OR = 20000;
        static final int STEP_AND = 20001;
        static final int STEP_NOT = 20002;
        static final int STEP_LESS = 20003;
        static final int STEP_LIKE = 20004;
        static final int STEP_PLUS = 20005;
        static final int STEP_MINUS = 20006;
        static final int STEP_TIMES = 20007;
        static final int STEP_BY = 20008;
        /** Six EXPRS deep with five operators open in each, and a TERM, come to 31. */
        static final int STACK = 64;

        private final int[] steps = new int[TAPE_MOST];
        private int used;
        private final int[] from = new int[RULES];
        private final int[] to = new int[RULES];
        final int[] values = new int[VALUES];
        private final int[] stack = new int[STACK];

        void clear() {
            used = 0;
            for (int i = 0; i < RULES; i++) {
                from[i] = 0;
                to[i] = 0;
            }
        }

        void open(int rule) {
            if (rule >= 0 && rule < RULES) {
                from[rule] = used;
            }
        }

        void close(int rule) {
            if (rule >= 0 && rule < RULES) {
                to[rule] = used;
            }
        }

        void add(int step) {
            if (used >= 0 && used < TAPE_MOST) {
                steps[used] = step;
                used++;
            }
        }

        boolean has(int rule) {
            return rule >= 0 && rule < RULES && to[rule] > from[rule];
        }

        int result(int rule) {
            if (!has(rule)) {
                return 0;
            }
            int height = 0;
            for (int i = from[rule]; i < to[rule] && i < TAPE_MOST; i++) {
                int step = steps[i];
                if (step < STEP_OR) {
                    if (height < STACK) {
                        stack[height] = operand(step);
                        height++;
                    }
                } else if (step == STEP_NOT) {
                    if (height > 0) {
                        stack[height - 1] = stack[height - 1] == 0 ? 1 : 0;
                    }
                } else if (height > 1) {
                    height--;
                    stack[height - 1] = apply(step, stack[height - 1], stack[height]);
                }
            }
            return stack[0];
        }

        private int operand(int step) {
            int value = step - STEP_VALUE;
            return value >= 0 && value < VALUES ? values[value] : step;
        }

        private static int apply(int step, int left, int right) {
            switch (step) {
                case STEP_OR: return left != 0 || right != 0 ? 1 : 0;
                case STEP_AND: return left != 0 && right != 0 ? 1 : 0;
                case STEP_LESS: return left < right ? 1 : 0;
                case STEP_LIKE: return left == right ? 1 : 0;
                case STEP_PLUS: return left + right;
                case STEP_MINUS: return left - right;
                case STEP_TIMES: return left * right;
                case STEP_BY: return right == 0 ? 0 : left / right;
                default: return 0;
            }
        }
    }

    /** Days of war. */
    private static final class War {
        private War() {
        }

        static boolean holdsFire(Valley valley, State state, int side) {
            Rules rules = valley.rules;
            if (!rules.has(side)) {
                return false;
            }
            int own = valley.ofSide(side);
            int[] values = rules.values;
            values[0] = state.day;
            values[1] = state.sung;
            values[2] = Integer.bitCount(own & state.free);
            values[3] = Integer.bitCount(valley.ofSide(1 - side) & state.free);
            values[4] = Integer.bitCount(own & state.fallen);
            values[5] = Integer.bitCount(valley.singable(state.free));
            return rules.result(side) > 0;
        }

        static int target(Valley valley, State state, int side) {
            int set = valley.ofSide(1 - side) & state.free;
            int best = NONE;
            int most = 0;
            for (int i = 0; i < SINGERS_MOST; i++) {
                if ((set >> i & 1) != 0) {
                    int worth = worthOf(valley, state, side, i);
                    if (best == NONE || worth > most) {
                        best = i;
                        most = worth;
                    }
                }
            }
            return best;
        }

        private static int worthOf(Valley valley, State state, int side, int singer) {
            Rules rules = valley.rules;
            int rule = Rules.AIM_FIRST + side;
            if (!rules.has(rule)) {
                return valley.skill[singer];
            }
            int part = valley.part[singer];
            int[] values = rules.values;
            values[0] = valley.skill[singer];
            values[1] = part;
            values[2] = singer;
            values[3] = Integer.bitCount(valley.ofPart(part) & state.free);
            return rules.result(rule);
        }

        private static int bitOf(int who) {
            return who == NONE ? 0 : 1 << who;
        }

        /** Whom a side fells on a DAY, as a bit. */
        private static int shot(Valley valley, State state, int side) {
            return holdsFire(valley, state, side) ? 0 : bitOf(target(valley, state, side));
        }

        /** A DAY goes by: who falls on it, as bits. */
        static int passDay(Valley valley, State state) {
            int felled = 0;
            if (valley.isEvening(state.day) && valley.singable(state.free) != 0) {
                state.sung++;
            } else {
                felled = shot(valley, state, 0) | shot(valley, state, 1);
                state.fell(felled);
            }
            state.day++;
            return felled;
        }

        /** Choices are 0 (fires) and 1 (holds). */
        static boolean coupleRests(Valley valley, State state, int north, int south, int much) {
            int here = leftFree(valley, state, north, south);
            int northElse = leftFree(valley, state, 1 - north, south);
            int southElse = leftFree(valley, state, north, 1 - south);
            int now = Integer.bitCount(valley.singable(state.free));
            int ahead = lead(valley, here);
            int bonus = bonus(valley, here, now, much);
            return ahead + bonus >= lead(valley, northElse) + bonus(valley, northElse, now, much)
                && bonus - ahead >= bonus(valley, southElse, now, much) - lead(valley, southElse);
        }

        private static int leftFree(Valley valley, State state, int north, int south) {
            int felled = north == 0 ? bitOf(target(valley, state, 0)) : 0;
            if (south == 0) {
                felled |= bitOf(target(valley, state, 1));
            }
            return state.free & ~felled;
        }

        /** The north's SKILLS less the south's, of those who are free. */
        private static int lead(Valley valley, int free) {
            return valley.skillsOf(valley.ofSide(0) & free)
                - valley.skillsOf(valley.ofSide(1) & free);
        }

        private static int bonus(Valley valley, int free, int now, int much) {
            return Integer.bitCount(valley.singable(free)) == now ? much : 0;
        }
    }

    /** What a set of free SINGERS can do with PIECES. */
    private static final class Choir {
        private static final int TOO_MANY = 1000;
        private static final int SINGER_SETS = 1 << SINGERS_MOST;

        private Choir() {
        }

        static int fewestMoves(Valley valley, int free, int piece) {
            int sum = 0;
            boolean some = false;
            for (int part = 0; part < PARTS; part++) {
                int row = piece * PARTS + part;
                if (valley.need[row] > 0) {
                    some = true;
                    sum += rowMoves(valley, valley.ofPart(part) & free, row);
                }
            }
            return some && sum < TOO_MANY ? sum : NONE;
        }

        /**
         * What singers have in common reaches from the lowest note of one of them to the
         * highest of one of them, so only such spans are tried.
         */
        private static int rowMoves(Valley valley, int set, int row) {
            int best = TOO_MANY;
            for (int i = 0; i < SINGERS_MOST; i++) {
                for (int j = 0; j < SINGERS_MOST; j++) {
                    if ((set >> i & 1) != 0 && (set >> j & 1) != 0) {
                        int low = valley.lowest[i];
                        int high = valley.highest[j];
                        int holders = valley.reaching(set, low, high);
                        if (Integer.bitCount(holders) >= valley.need[row]) {
                            best = Math.min(best, movesInto(valley, row, low, high));
                        }
                    }
                }
            }
            return best;
        }

        private static int movesInto(Valley valley, int row, int low, int high) {
            int moves = 0;
            for (int i = 0; i < valley.length[row] && i < NOTES_MOST; i++) {
                int note = valley.notes[row * NOTES_MOST + i];
                if (!within(note, low, high)) {
                    if (!within(note - OCTAVE, low, high) && !within(note + OCTAVE, low, high)) {
                        return TOO_MANY;
                    }
                    moves++;
                }
            }
            return moves;
        }

        private static boolean within(int note, int low, int high) {
            return note >= low && note <= high;
        }

        static int sparable(Valley valley, int free, int piece) {
            if (!valley.canBeSung(piece, free)) {
                return NONE;
            }
            int least = SINGERS_MOST;
            for (int part = 0; part < PARTS; part++) {
                int row = piece * PARTS + part;
                if (valley.need[row] > 0) {
                    int able = Integer.bitCount(valley.fitting[row] & free);
                    least = Math.min(least, able - valley.need[row]);
                }
            }
            return least;
        }

        static int keySingers(Valley valley, int free) {
            int now = valley.singable(free);
            int keys = 0;
            for (int i = 0; i < SINGERS_MOST; i++) {
                int bit = 1 << i;
                if ((free & bit) != 0 && valley.singable(free & ~bit) != now) {
                    keys |= bit;
                }
            }
            return keys;
        }

        static int ransomed(Valley valley, State state, int piece) {
            int north = valley.ofSide(0) & state.caught;
            int south = valley.ofSide(1) & state.caught;
            int all = north | south;
            if (!valley.canBeSung(piece, state.free | all)) {
                return NONE;
            }
            int best = NONE;
            int fewest = TOO_MANY;
            int set = 0;
            // The sets come from the least on, so the first of each size is the least one.
            for (int i = 0; i < SINGER_SETS; i++) {
                int many = Integer.bitCount(set & north);
                boolean even = many == Integer.bitCount(set & south);
                if (even && many < fewest && valley.canBeSung(piece, state.free | set)) {
                    best = set;
                    fewest = many;
                }
                set = set - all & all;
                if (set == 0 || fewest == 0) {
                    break;
                }
            }
            return best;
        }

        static int bestExchange(Valley valley, State state) {
            int north = valley.ofSide(0) & state.caught;
            int south = valley.ofSide(1) & state.caught;
            int most = Integer.bitCount(valley.singable(state.free));
            int best = NONE;
            for (int i = 0; i < SINGERS_MOST; i++) {
                for (int j = 0; j < SINGERS_MOST; j++) {
                    if ((north >> i & 1) != 0 && (south >> j & 1) != 0) {
                        int freed = state.free | 1 << i | 1 << j;
                        int many = Integer.bitCount(valley.singable(freed));
                        if (many > most) {
                            most = many;
                            best = 100 * i + j;
                        }
                    }
                }
            }
            return best;
        }

        /**
         * Nobody sings in two PARTS, so a set of PIECES fits when in each PART, for all of
         * its subsets, those who can sing at least one of their ROWS are enough (Hall).
         */
        static boolean together(Valley valley, int free, int set) {
            if ((valley.singable(free) & set) != set) {
                return false;
            }
            for (int some = 1; some < PIECE_SETS; some++) {
                if ((some & set) == some && !enoughFor(valley, free, some)) {
                    return false;
                }
            }
            return true;
        }

        private static boolean enoughFor(Valley valley, int free, int pieces) {
            for (int part = 0; part < PARTS; part++) {
                int who = 0;
                int wanted = 0;
                for (int piece = 0; piece < PIECES_MOST; piece++) {
                    if ((pieces >> piece & 1) != 0) {
                        int row = piece * PARTS + part;
                        who |= valley.fitting[row] & free;
                        wanted += valley.need[row];
                    }
                }
                if (Integer.bitCount(who) < wanted) {
                    return false;
                }
            }
            return true;
        }

        static int bestCast(Valley valley, int free, int piece) {
            int chosen = 0;
            for (int part = 0; part < PARTS; part++) {
                int row = piece * PARTS + part;
                for (int i = 0; i < valley.need[row] && i < NEED_MOST; i++) {
                    chosen |= mostSkilled(valley, valley.fitting[row] & free & ~chosen);
                }
            }
            return chosen;
        }

        private static int mostSkilled(Valley valley, int set) {
            int best = 0;
            int most = NONE;
            for (int i = 0; i < SINGERS_MOST; i++) {
                if ((set >> i & 1) != 0 && valley.skill[i] > most) {
                    best = 1 << i;
                    most = valley.skill[i];
                }
            }
            return best;
        }

        static long countCasts(Valley valley, int free, int piece) {
            if (!valley.canBeSung(piece, free)) {
                return 0;
            }
            long many = 1;
            for (int part = 0; part < PARTS; part++) {
                int row = piece * PARTS + part;
                int able = Integer.bitCount(valley.fitting[row] & free);
                many *= Counting.choose(able, valley.need[row]);
            }
            return many;
        }

        static boolean canBeSungAt(Valley valley, int free, int piece, int shift) {
            boolean some = false;
            for (int part = 0; part < PARTS; part++) {
                int row = piece * PARTS + part;
                if (valley.need[row] > 0) {
                    int low = valley.bottom[row] + shift;
                    int high = valley.top[row] + shift;
                    int who = valley.reaching(valley.ofPart(part) & free, low, high);
                    if (low < 0 || high > NOTE_TOP || Integer.bitCount(who) < valley.need[row]) {
                        return false;
                    }
                    some = true;
                }
            }
            return some;
        }

        /** One wider range can help one ROW by one SINGER and no more. */
        static int rowLackingOne(Valley valley, int free, int piece) {
            int found = NONE;
            int sum = 0;
            for (int part = 0; part < PARTS; part++) {
                int row = piece * PARTS + part;
                int lack = valley.lackingIn(row, free);
                if (lack > 0) {
                    found = row;
                }
                sum += lack;
            }
            return sum == 1 ? found : NONE;
        }

        static int easiestToWiden(Valley valley, int free, int row) {
            int set = valley.ofPart(row % PARTS) & free & ~valley.fitting[row];
            int best = NONE;
            int fewest = TOO_MANY;
            for (int i = 0; i < SINGERS_MOST; i++) {
                if ((set >> i & 1) != 0 && valley.stretch(row, i) < fewest) {
                    best = i;
                    fewest = valley.stretch(row, i);
                }
            }
            return best;
        }

        /**
         * In how many ways so many of the free fall and the PIECE can be sung: no two of its
         * ROWS share a SINGER, so the ways of each ROW and of all others are multiplied.
         */
        static long setsOutlived(Valley valley, int free, int piece, int fall, int[] ways) {
            if (!valley.canBeSung(piece, free) || fall < 0 || fall >= ways.length) {
                return 0;
            }
            for (int i = 0; i < ways.length; i++) {
                ways[i] = 0;
            }
            ways[0] = 1;
            int others = Integer.bitCount(free);
            for (int part = 0; part < PARTS; part++) {
                int row = piece * PARTS + part;
                int able = Integer.bitCount(valley.fitting[row] & free);
                others -= able;
                multiply(ways, able, able - valley.need[row]);
            }
            multiply(ways, others, others);
            return ways[fall];
        }

        /** From the highest on, as each new number needs only old ones not above it. */
        private static void multiply(int[] ways, int all, int most) {
            for (int f = ways.length - 1; f >= 0; f--) {
                long sum = 0;
                for (int j = 0; j <= f && j <= most; j++) {
                    sum += ways[f - j] * Counting.choose(all, j);
                }
                ways[f] = (int) sum;
            }
        }
    }

    /** The bytes that were fed, and the tokens of a TEXT among them. */
    private static final class Tape {
        /** Each word's number is its place here: the words of one kind stand side by side. */
        private static final String WORDS = "north south neutral soprano alto tenor bass piece every truce aim or and not day sung own other fallen can skill part singer tone ";
        static final int NORTH = 0;
        static final int SOUTH = 1;
        static final int NEUTRALS = 2;
        static final int SOPRANO = 3;
        static final int BASS = 6;
        static final int PIECE = 7;
        static final int EVERY = 8;
        static final int TRUCE = 9;
        static final int AIM = 10;
        static final int OR = 11;
        static final int AND = 12;
        static final int NOT = 13;
        static final int DAY = 14;
        static final int SKILL = 20;
        static final int UNKNOWN_WORD = 24;
        static final int LONG_NUMBER = 31;
        static final int NO_TOKEN = 32;
        static final int END = 33;
        /** A sign's kind is this and its byte. */
        static final int SIGN = 1000;
        /** A NUMBER's kind is this and what it is. */
        static final int NUMBER = 10000;

        private static final int DIGITS_MOST = 4;

        private final int[] text = new int[TAPE_MOST];
        int fed;
        private final int[] kinds = new int[TAPE_MOST];
        private final int[] places = new int[TAPE_MOST];
        private int many;
        private int end;

        /** Four bytes, the highest first. */
        void put(int number) {
            for (int shift = 24; shift >= 0; shift -= 8) {
                if (fed >= 0 && fed < TAPE_MOST) {
                    text[fed] = number >>> shift & 255;
                    fed++;
                }
            }
        }

        int kindOf(int i) {
            return i >= 0 && i < many && i < TAPE_MOST ? kinds[i] : END;
        }

        /** Where a token begins; the text's length behind the last one. */
        int placeOf(int i) {
            return i >= 0 && i < many && i < TAPE_MOST ? places[i] : end;
        }

        /** Finds the tokens of the first so many bytes. */
        void scan(int length) {
            many = 0;
            end = Math.min(length, TAPE_MOST);
            int at = 0;
            while (at < end) {
                int sign = byteAt(at);
                if (sign == ' ' || sign == 10) {
                    at++;
                } else {
                    int next = Math.max(at + 1, endOfToken(at));
                    keep(kindBetween(at, next), at);
                    at = next;
                }
            }
        }

        private void keep(int kind, int place) {
            if (many >= 0 && many < TAPE_MOST) {
                kinds[many] = kind;
                places[many] = place;
                many++;
            }
        }

        private int byteAt(int i) {
            return i >= 0 && i < end && i < TAPE_MOST ? text[i] : NONE;
        }

        private static boolean isLetter(int sign) {
            return sign >= 'a' && sign <= 'z';
        }

        private static boolean isDigit(int sign) {
            return sign >= '0' && sign <= '9';
        }

        private int endOfToken(int from) {
            int at = from;
            if (isLetter(byteAt(from))) {
                while (at < end && isLetter(byteAt(at))) {
                    at++;
                }
            } else {
                while (at < end && isDigit(byteAt(at))) {
                    at++;
                }
            }
            return at;
        }

        private int kindBetween(int from, int to) {
            int first = byteAt(from);
            if (isLetter(first)) {
                return wordBetween(from, to);
            }
            if (isDigit(first)) {
                return numberBetween(from, to);
            }
            switch (first) {
                case ';':
                case '(':
                case ')':
                case '+':
                case '-':
                case '*':
                case '/':
                case '<':
                case '=': return SIGN + first;
                default: return NO_TOKEN;
            }
        }

        private int numberBetween(int from, int to) {
            if (to - from > DIGITS_MOST) {
                return LONG_NUMBER;
            }
            int number = 0;
            for (int i = from; i < to; i++) {
                number = number * 10 + byteAt(i) - '0';
            }
            return NUMBER + number;
        }

        private int wordBetween(int from, int to) {
            int word = 0;
            int start = 0;
            for (int i = 0; i < WORDS.length(); i++) {
                if (WORDS.charAt(i) == ' ') {
                    if (i - start == to - from && sameLetters(start, i, from)) {
                        return word;
                    }
                    word++;
                    start = i + 1;
                }
            }
            return UNKNOWN_WORD;
        }

        private boolean sameLetters(int start, int stop, int from) {
            for (int i = start; i < stop && i < WORDS.length(); i++) {
                if (i < 0 || WORDS.charAt(i) != byteAt(from + i - start)) {
                    return false;
                }
            }
            return true;
        }
    }

    /** Reads a TEXT, token by token, up to its first FAULT. */
    private static final class Reader {
        private static final int CANT_STAND = 1;
        private static final int TOO_MUCH = 2;
        private static final int NO_VALUE = 3;
        private static final int ROW_AGAIN = 4;
        private static final int TOLD_AGAIN = 5;

        private static final int DEPTH_MOST = 6;
        private static final int NOTS_MOST = 6;
        private static final int TRUCE_VALUES = 6;
        private static final int AIM_VALUES = 4;

        final Tape tape = new Tape();
        private int at;
        private int token;
        private int taken;
        private boolean everyTold;
        private int firstValue;
        private int valueCount;
        private int fault;

        /** 0, or the FAULT, before which the reader stays. */
        int read(int length, Valley into) {
            tape.scan(length);
            at = 0;
            token = tape.kindOf(0);
            everyTold = false;
            fault = 0;
            into.clear();
            for (int i = 0; i < TAPE_MOST && token != Tape.END; i++) {
                if (!readLine(into)) {
                    return fault;
                }
            }
            into.settle();
            return 0;
        }

        int place() {
            return tape.placeOf(at);
        }

        private boolean fail(int kind) {
            fault = kind;
            return false;
        }

        private void step() {
            at++;
            token = tape.kindOf(at);
        }

        private boolean atSign(char sign) {
            return token == Tape.SIGN + sign;
        }

        private boolean atNumber() {
            return token >= Tape.NUMBER || token == Tape.LONG_NUMBER;
        }

        private boolean atWord() {
            return token >= Tape.NORTH && token <= Tape.UNKNOWN_WORD;
        }

        private boolean atPart() {
            return token >= Tape.SOPRANO && token <= Tape.BASS;
        }

        // ---- lines

        private boolean readLine(Valley into) {
            if (token >= Tape.NORTH && token <= Tape.NEUTRALS) {
                return readSinger(into) && readSign(';');
            }
            if (atPart()) {
                return readRow(into) && readSign(';');
            }
            switch (token) {
                case Tape.PIECE: return readPiece(into) && readSign(';');
                case Tape.EVERY: return readEvery(into) && readSign(';');
                case Tape.TRUCE: return readRule(into.rules, 0) && readSign(';');
                case Tape.AIM: return readRule(into.rules, Rules.AIM_FIRST) && readSign(';');
                default: return fail(CANT_STAND);
            }
        }

        private boolean readSign(char sign) {
            if (!atSign(sign)) {
                return fail(CANT_STAND);
            }
            step();
            return true;
        }

        /** What it read is in taken; a LONG_NUMBER comes out below 0, so below the least. */
        private boolean readNumber(int least, int most) {
            if (!atNumber()) {
                return fail(CANT_STAND);
            }
            taken = token - Tape.NUMBER;
            if (taken < least || taken > most) {
                return fail(TOO_MUCH);
            }
            step();
            return true;
        }

        private boolean readSinger(Valley into) {
            int singer = into.singers;
            if (singer < 0 || singer >= SINGERS_MOST) {
                return fail(TOO_MUCH);
            }
            into.side[singer] = token - Tape.NORTH;
            step();
            if (!atPart()) {
                return fail(CANT_STAND);
            }
            into.part[singer] = token - Tape.SOPRANO;
            step();
            if (!readNumber(0, NOTE_TOP)) {
                return false;
            }
            into.lowest[singer] = taken;
            if (!readNumber(taken, NOTE_TOP)) {
                return false;
            }
            into.highest[singer] = taken;
            if (!readNumber(0, SKILL_TOP)) {
                return false;
            }
            into.skill[singer] = taken;
            into.singers = singer + 1;
            return true;
        }

        private boolean readPiece(Valley into) {
            if (into.pieces >= PIECES_MOST) {
                return fail(TOO_MUCH);
            }
            into.pieces++;
            step();
            return true;
        }

        private boolean readRow(Valley into) {
            int row = (into.pieces - 1) * PARTS + token - Tape.SOPRANO;
            if (into.pieces < 1 || row < 0 || row >= ROWS_MOST) {
                return fail(CANT_STAND);
            }
            if (into.need[row] != 0) {
                return fail(ROW_AGAIN);
            }
            step();
            if (!readNumber(1, NEED_MOST)) {
                return false;
            }
            into.need[row] = taken;
            int many = 0;
            while (many < NOTES_MOST && (many == 0 || atNumber())) {
                if (!readNumber(0, NOTE_TOP)) {
                    return false;
                }
                into.notes[row * NOTES_MOST + many] = taken;
                many++;
            }
            into.length[row] = many;
            return !atNumber() || fail(TOO_MUCH);
        }

        private boolean readEvery(Valley into) {
            if (everyTold) {
                return fail(TOLD_AGAIN);
            }
            everyTold = true;
            step();
            if (!readNumber(1, EVERY_TOP)) {
                return false;
            }
            into.every = taken;
            return true;
        }

        /** First is the north's rule of this kind; the south's comes behind it. */
        private boolean readRule(Rules rules, int first) {
            step();
            if (token < Tape.NORTH || token > Tape.SOUTH) {
                return fail(CANT_STAND);
            }
            int rule = first + token - Tape.NORTH;
            if (rules.has(rule)) {
                return fail(TOLD_AGAIN);
            }
            boolean truce = first < Rules.AIM_FIRST;
            firstValue = truce ? Tape.DAY : Tape.SKILL;
            valueCount = truce ? TRUCE_VALUES : AIM_VALUES;
            step();
            rules.open(rule);
            boolean fine = readExpr(rules, 0);
            rules.close(rule);
            return fine;
        }

        // ---- expressions; depth is how many others one is within

        private boolean readExpr(Rules rules, int depth) {
            if (depth >= DEPTH_MOST) {
                boolean starts = atNumber() || atWord() || atSign('(');
                return fail(starts ? TOO_MUCH : CANT_STAND);
            }
            boolean fine = readAnd(rules, depth);
            for (int i = 0; i < TAPE_MOST && fine && token == Tape.OR; i++) {
                step();
                fine = readAnd(rules, depth);
                rules.add(Rules.STEP_OR);
            }
            return fine;
        }

        private boolean readAnd(Rules rules, int depth) {
            boolean fine = readNot(rules, depth);
            for (int i = 0; i < TAPE_MOST && fine && token == Tape.AND; i++) {
                step();
                fine = readNot(rules, depth);
                rules.add(Rules.STEP_AND);
            }
            return fine;
        }

        private boolean readNot(Rules rules, int depth) {
            int nots = 0;
            while (nots < NOTS_MOST && token == Tape.NOT) {
                step();
                nots++;
            }
            if (token == Tape.NOT && nots == NOTS_MOST) {
                return fail(TOO_MUCH);
            }
            boolean fine = readTest(rules, depth);
            for (int i = 0; i < nots; i++) {
                rules.add(Rules.STEP_NOT);
            }
            return fine;
        }

        private boolean readTest(Rules rules, int depth) {
            if (!readSum(rules, depth)) {
                return false;
            }
            boolean less = atSign('<');
            if (!less && !atSign('=')) {
                return true;
            }
            step();
            boolean fine = readSum(rules, depth);
            rules.add(less ? Rules.STEP_LESS : Rules.STEP_LIKE);
            return fine;
        }

        private boolean readSum(Rules rules, int depth) {
            boolean fine = readProduct(rules, depth);
            for (int i = 0; i < TAPE_MOST && fine && (atSign('+') || atSign('-')); i++) {
                int operator = atSign('+') ? Rules.STEP_PLUS : Rules.STEP_MINUS;
                step();
                fine = readProduct(rules, depth);
                rules.add(operator);
            }
            return fine;
        }

        private boolean readProduct(Rules rules, int depth) {
            boolean fine = readTerm(rules, depth);
            for (int i = 0; i < TAPE_MOST && fine && (atSign('*') || atSign('/')); i++) {
                int operator = atSign('*') ? Rules.STEP_TIMES : Rules.STEP_BY;
                step();
                fine = readTerm(rules, depth);
                rules.add(operator);
            }
            return fine;
        }

        private boolean readTerm(Rules rules, int depth) {
            if (atSign('(')) {
                step();
                return readExpr(rules, depth + 1) && readSign(')');
            }
            if (atWord()) {
                int which = token - firstValue;
                if (which < 0 || which >= valueCount) {
                    return fail(NO_VALUE);
                }
                rules.add(Rules.STEP_VALUE + which);
                step();
                return true;
            }
            if (!readNumber(0, NUMBER_TOP)) {
                return false;
            }
            rules.add(taken);
            return true;
        }
    }
}
