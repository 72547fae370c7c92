import java.util.Arrays;

/**
 * An orchestra of locks: locks of some wards told as a text, notes that turn them, wards at which
 * they jam, doors that open by a small language, players who have some notes, rust.
 *
 * <p>Where all locks stand and which are jammed is one number, a STATE: the way they stand (the
 * first lock's ward counts 1, the next one's as many as the first has wards, and so on) and, times
 * the number of all ways, the jammed locks as bits. All rows are made once, with the object.
 */
public final class LockOrchestra {
    public static final int NONE = -1;
    public static final long NOTHING = -1000000000000000L;

    private static final int LOCKS = 0;
    private static final int NOTES = 1;
    private static final int DOORS = 2;
    private static final int PLAYERS = 3;
    private static final int KINDS = 4;
    private static final int[] MOST_OF_KIND = {4, 6, 6, 5};

    private static final int MOST_LOCKS = 4;
    private static final int MOST_NOTES = 6;
    private static final int MOST_DOORS = 6;
    private static final int MOST_PLAYERS = 5;
    private static final int MOST_WARDS = 5;
    private static final int MOST_STATES = 10000;
    private static final int REST = 6;

    private static final int MOST_BYTES = 1600;
    private static final int FED_BYTES = 20;
    private static final int MOST_STATEMENTS = 60;
    private static final int MOST_LETTERS = 6;
    private static final int MOST_DIGITS = 4;
    private static final int MOST_NUMBER = 9999;
    private static final int MOST_OPENED = 6;
    private static final int MOST_VALUE = 1000000;

    private static final int MOST_PIECE = 20;
    private static final int MOST_HEARD = 20;
    private static final int MOST_KEPT = 40;
    private static final int MOST_UNDONE = 20;
    private static final int MOST_PLAYED = 9999;
    private static final int MOST_TURNS = 50;

    private static final int NO_SUCH_TEXT = 1;
    private static final int NO_SUCH_NUMBER = 2;
    private static final int NO_SUCH_NAME = 3;
    private static final int TOO_DEEP = 4;
    private static final int TOO_MANY = 5;

    private final Tape tape = new Tape();
    private final Words words = new Words(tape);
    private final HallReader hallReader = new HallReader(words);
    private final Question question = new Question(words);
    private final Search search = new Search();
    private final Piece piece = new Piece();
    private final Heard heard = new Heard();
    private final Story now = new Story();
    private final int[] judged = new int[3];
    private final int[] slipped = new int[2];
    private final int[] image = new int[3 + 2 * MOST_LOCKS];
    private final int[] refused = new int[6];
    private Hall hall = new Hall();
    private Hall spare = new Hall();
    private boolean wasJudged = false;
    private boolean hasSlipped = false;
    private int imageLength = 0;
    private long drawn = 1;

    public LockOrchestra() {
    }

    // ---- the tape, the hall

    public int feed(int a, int b, int c, int d, int e) {
        if (tape.length() + FED_BYTES > MOST_BYTES) {
            return refuse(0);
        }
        tape.addNumber(a);
        tape.addNumber(b);
        tape.addNumber(c);
        tape.addNumber(d);
        tape.addNumber(e);
        return tape.length();
    }

    public boolean end(int n) {
        if (n < 0 || n > tape.length()) {
            refuse(0);
            return false;
        }
        tape.cut(n);
        return true;
    }

    public int hall() {
        int statements = hallReader.readInto(spare);
        tape.cut(0);
        if (statements == NONE) {
            return refuse(1);
        }
        Hall told = spare;
        spare = hall;
        hall = told;
        now.start(hall.firstState(), 0);
        heard.forget();
        wasJudged = false;
        hasSlipped = false;
        return statements;
    }

    public int fault(int what) {
        if (what == 0) {
            return words.faultKind();
        }
        return what == 1 ? words.faultPlace() : NONE;
    }

    public int has(int what) {
        switch (what) {
            case 0:
            case 1:
            case 2:
            case 3:
                return hall.count(what);
            case 4:
                return hall.rust();
            case 5:
                return now.played();
            case 6:
                return hall.jamsOf(now.state());
            case 7:
                return hall.openDoors(now.state());
            case 8:
                return now.keptCount();
            case 9:
                return heard.rows();
            case 10:
                return now.acts();
            default:
                return NONE;
        }
    }

    public int letter(int kind, int which, int k) {
        if (!hall.isOne(kind, which) || k < 0 || k >= MOST_LETTERS) {
            return NONE;
        }
        return hall.nameOf(kind, which) >>> (5 * k) & 31;
    }

    public int lock(int lock, int what) {
        if (!hall.isOne(LOCKS, lock)) {
            return NONE;
        }
        switch (what) {
            case 0:
                return hall.wardsOf(lock);
            case 1:
                return hall.wardOf(now.state(), lock);
            case 2:
                return hall.wardOf(hall.firstState(), lock);
            case 3:
                return hall.jamWardOf(lock);
            case 4:
                return hall.isJammed(now.state(), lock) ? 1 : 0;
            default:
                return NONE;
        }
    }

    public int note(int note, int what) {
        if (!hall.isOne(NOTES, note)) {
            return NONE;
        }
        if (what == 0) {
            return hall.canPlay(now.state(), note) ? 1 : 0;
        }
        if (what == 1) {
            return hall.playersOf(note);
        }
        return what >= 10 && hall.isOne(LOCKS, what - 10) ? hall.turnOf(note, what - 10) : NONE;
    }

    public int door(int door) {
        return hall.isOne(DOORS, door) ? hall.openDoors(now.state()) >> door & 1 : NONE;
    }

    public int player(int player) {
        return hall.isOne(PLAYERS, player) ? hall.notesOf(player) : NONE;
    }

    public int kept(int k, int what) {
        return now.keptPart(k, what);
    }

    // ---- pieces

    public int judge() {
        if (!piece.take(tape, hall)) {
            return refuse(1);
        }
        int state = now.state();
        int opened = 0;
        int n = 0;
        for (; n < piece.length() && hall.canPlay(state, piece.noteAt(n)); n++) {
            int next = hall.after(state, piece.noteAt(n));
            opened += Integer.bitCount(hall.openDoors(next) & ~hall.openDoors(state));
            state = next;
        }
        setCell(judged, 0, hall.openDoors(state));
        setCell(judged, 1, hall.jamsOf(state));
        setCell(judged, 2, opened);
        wasJudged = true;
        return n;
    }

    public int judged(int what) {
        return wasJudged && what >= 0 && what < 3 ? cell(judged, what) : NONE;
    }

    public int shortest(int doors, int k) {
        if (!hall.areDoors(doors)) {
            return NONE;
        }
        search.seekJustDoors(doors);
        return search.wayTo(search.find(hall, now.state(), hall.bitsOfAll(NOTES)), k);
    }

    public int back(int k) {
        search.seekState(hall.firstState());
        return search.wayTo(search.find(hall, now.state(), hall.bitsOfAll(NOTES)), k);
    }

    public int states() {
        search.seekNothing();
        search.find(hall, now.state(), hall.bitsOfAll(NOTES));
        return search.reached();
    }

    public int forbid(int doors) {
        if (!hall.areDoors(doors) || (hall.openDoors(now.state()) & doors) == doors) {
            return NONE;
        }
        int all = hall.bitsOfAll(NOTES);
        search.seekDoors(doors);
        long tooFew = 0;
        for (int size = 0; size <= MOST_NOTES; size++) {
            for (int bits = 0; bits <= all; bits++) {
                if (Integer.bitCount(bits) != size || (tooFew >> bits & 1) == 1) {
                    continue;
                }
                int place = search.find(hall, now.state(), all & ~bits);
                if (place == NONE) {
                    return bits;
                }
                tooFew |= setsWithout(search.notesTo(place));
            }
        }
        return NONE;
    }

    public int share() {
        if (!piece.take(tape, hall)) {
            return refuse(1);
        }
        int all = hall.bitsOfAll(PLAYERS);
        for (int size = 0; size <= MOST_PLAYERS; size++) {
            for (int bits = 0; bits <= all; bits++) {
                if (Integer.bitCount(bits) == size && piece.canBeShared(hall, bits)) {
                    return bits;
                }
            }
        }
        return NONE;
    }

    public int slip(int doors) {
        if (!piece.take(tape, hall) || !hall.areDoors(doors)) {
            return refuse(1);
        }
        hasSlipped = false;
        int found = 0;
        for (int place = 0; place < piece.length(); place++) {
            for (int other = 0; other <= REST; other++) {
                if (other != piece.noteAt(place) && endsWith(place, other, doors)) {
                    keepFirstSlip(place, other);
                    found++;
                }
            }
        }
        return found;
    }

    public int slipped(int what) {
        return hasSlipped && what >= 0 && what < 2 ? cell(slipped, what) : NONE;
    }

    // ---- what is heard

    public int hear() {
        return heard.take(tape, hall) ? heard.rows() : refuse(1);
    }

    public int starts(int what) {
        if (heard.rows() == 0 || what < 0 || what > 2) {
            return NONE;
        }
        int many = 0;
        int least = NONE;
        int greatest = NONE;
        for (int way = 0; way < hall.ways() && way < MOST_STATES; way++) {
            if (heard.fits(hall, way)) {
                many++;
                least = least == NONE ? way : least;
                greatest = way;
            }
        }
        if (what == 0) {
            return many;
        }
        return what == 1 ? least : greatest;
    }

    public int hangs(int door) {
        if (!hall.isOne(DOORS, door)) {
            return NONE;
        }
        int bits = 0;
        int state = now.state();
        for (int lock = 0; lock < hall.count(LOCKS); lock++) {
            for (int ward = 0; ward < hall.wardsOf(lock); ward++) {
                int other = hall.openDoors(hall.withWard(state, lock, ward));
                if (((other ^ hall.openDoors(state)) >> door & 1) == 1) {
                    bits |= 1 << lock;
                }
            }
        }
        return bits;
    }

    // ---- acts

    public int play(int note) {
        if (!hall.canPlay(now.state(), note)) {
            return refuse(2);
        }
        now.beginAct();
        playOne(note);
        return hall.openDoors(now.state());
    }

    public int piece() {
        if (!piece.take(tape, hall) || piece.length() == 0) {
            return refuse(2);
        }
        now.beginAct();
        int n = 0;
        for (; n < piece.length() && hall.canPlay(now.state(), piece.noteAt(n)); n++) {
            playOne(piece.noteAt(n));
        }
        return n;
    }

    public boolean oil(int lock) {
        int before = now.state();
        if (!hall.isOne(LOCKS, lock) || !hall.isJammed(before, lock)) {
            refuse(3);
            return false;
        }
        now.beginAct();
        now.goTo(hall.withoutJam(before, lock));
        now.keepDoors(hall.openDoors(before), hall.openDoors(now.state()));
        return true;
    }

    public int evening(int n) {
        if (n < 1 || n > MOST_TURNS || hall.count(NOTES) == 0) {
            return refuse(3);
        }
        now.beginAct();
        int notes = 0;
        for (int turn = 0; turn < n; turn++) {
            int note = draw(hall.count(NOTES));
            if (hall.canPlay(now.state(), note)) {
                playOne(note);
                notes++;
            } else {
                playOne(REST);
            }
            if (draw(100) < hall.rust()) {
                now.goTo(hall.withJam(now.state(), draw(hall.count(LOCKS))));
            }
        }
        return notes;
    }

    public boolean undo() {
        if (!now.undoAct()) {
            refuse(4);
            return false;
        }
        return true;
    }

    public boolean seed(int seed) {
        if (seed < 0) {
            refuse(5);
            return false;
        }
        drawn = seed;
        return true;
    }

    // ---- questions

    public long ask() {
        boolean told = question.read();
        tape.cut(0);
        return told ? question.answer(hall, now.state()) : NOTHING;
    }

    // ---- images, refusals

    public int image() {
        int n = 0;
        setCell(image, n++, now.played() / 256);
        setCell(image, n++, now.played() % 256);
        for (int lock = 0; lock < hall.count(LOCKS); lock++) {
            setCell(image, n++, hall.wardOf(now.state(), lock));
            setCell(image, n++, hall.isJammed(now.state(), lock) ? 1 : 0);
        }
        int check = 11;
        for (int k = 0; k < n; k++) {
            check = nextCheck(check, cell(image, k));
        }
        setCell(image, n++, check);
        imageLength = n;
        return n;
    }

    public int octet(int k) {
        return k >= 0 && k < imageLength ? cell(image, k) : NONE;
    }

    public boolean on() {
        int state = imagedState();
        int played = 256 * tape.byteAt(0) + tape.byteAt(1);
        tape.cut(0);
        if (state == NONE || played > MOST_PLAYED) {
            refuse(5);
            return false;
        }
        now.start(state, played);
        return true;
    }

    public int status(int what) {
        return what >= 0 && what < refused.length ? cell(refused, what) : NONE;
    }

    // ---- what the calls share

    /** Outside of its length a row answers 0, so that no index can fail. */
    private static int cell(int[] row, int k) {
        return k >= 0 && k < row.length ? row[k] : 0;
    }

    private static void setCell(int[] row, int k, int value) {
        if (k >= 0 && k < row.length) {
            row[k] = value;
        }
    }

    private static int nextCheck(int check, int octet) {
        return (3 * check + octet) % 251;
    }

    private int refuse(int kind) {
        setCell(refused, kind, cell(refused, kind) + 1);
        return NONE;
    }

    /** As bits, all sets of notes that have none of these: to forbid them leaves a way of these open. */
    private static long setsWithout(int notes) {
        long sets = 0;
        for (int bits = 0; bits < 1 << MOST_NOTES; bits++) {
            sets |= (bits & notes) == 0 ? 1L << bits : 0;
        }
        return sets;
    }

    private void playOne(int note) {
        int before = now.state();
        now.goTo(hall.after(before, note));
        now.countPlayed();
        now.keepDoors(hall.openDoors(before), hall.openDoors(now.state()));
    }

    private int draw(int many) {
        drawn = (1103515245L * drawn + 12345L) % 2147483648L;
        return many > 0 ? (int) (drawn / 64 % many) : 0;
    }

    private boolean endsWith(int place, int other, int doors) {
        int state = piece.endOf(hall, now.state(), place, other);
        return state != NONE && hall.openDoors(state) == doors;
    }

    private void keepFirstSlip(int place, int other) {
        if (!hasSlipped) {
            setCell(slipped, 0, place);
            setCell(slipped, 1, other);
            hasSlipped = true;
        }
    }

    /** The state that the tape tells as an image of this hall, NONE if it is no such image. */
    private int imagedState() {
        int length = 3 + 2 * hall.count(LOCKS);
        if (tape.length() != length) {
            return NONE;
        }
        int check = 11;
        for (int k = 0; k < length - 1; k++) {
            check = nextCheck(check, tape.byteAt(k));
        }
        if (check != tape.byteAt(length - 1)) {
            return NONE;
        }
        int state = hall.firstState();
        for (int lock = 0; lock < hall.count(LOCKS); lock++) {
            int ward = tape.byteAt(2 + 2 * lock);
            int jam = tape.byteAt(3 + 2 * lock);
            if (ward >= hall.wardsOf(lock) || jam > 1) {
                return NONE;
            }
            state = hall.withWard(state, lock, ward);
            state = jam == 1 ? hall.withJam(state, lock) : state;
        }
        return state;
    }

    /** The bytes that were fed and not yet used. */
    private static final class Tape {
        private final int[] bytes = new int[MOST_BYTES];
        private int length = 0;

        int length() {
            return length;
        }

        void cut(int n) {
            length = Math.max(0, Math.min(n, length));
        }

        void addNumber(int number) {
            for (int shift = 24; shift >= 0; shift -= 8) {
                addByte(number >>> shift & 255);
            }
        }

        private void addByte(int octet) {
            if (length < MOST_BYTES) {
                setCell(bytes, length, octet);
                length++;
            }
        }

        /** NONE where the tape has no byte. */
        int byteAt(int k) {
            return k >= 0 && k < length && k < bytes.length ? bytes[k] : NONE;
        }
    }

    /** A hall as its text tells it, and what follows from it for each state. */
    private static final class Hall {
        private static final int KNOWN = 64;

        private final Code code = new Code();
        private final int[] counts = new int[KINDS];
        private final int[] names = new int[KINDS * 6];
        private final int[] wards = new int[MOST_LOCKS];
        private final int[] jamWards = new int[MOST_LOCKS];
        private final int[] placeValues = new int[MOST_LOCKS];
        private final int[] turns = new int[MOST_NOTES * MOST_LOCKS];
        private final int[] noteLocks = new int[MOST_NOTES];
        private final int[] playerNotes = new int[MOST_PLAYERS];
        private final int[] doorFrom = new int[MOST_DOORS];
        private final int[] doorTo = new int[MOST_DOORS];
        // Doors open in each state, four states to a cell: a search asks for the same ones often.
        private final int[] doorMemo = new int[MOST_STATES / 4];
        private int ways = 1;
        private int firstState = 0;
        private int rust = 0;

        void clear() {
            code.clear();
            Arrays.fill(counts, 0);
            Arrays.fill(turns, 0);
            Arrays.fill(noteLocks, 0);
            Arrays.fill(playerNotes, 0);
            Arrays.fill(doorMemo, 0);
            ways = 1;
            firstState = 0;
            rust = 0;
        }

        // -- what the reader tells

        /** The number of the new one; NONE if there are as many as may be. */
        int addOne(int kind, int name) {
            int which = count(kind);
            if (isFull(kind)) {
                return NONE;
            }
            setCell(names, kind * 6 + which, name);
            setCell(counts, kind, which + 1);
            return which;
        }

        void tellLock(int lock, int wardCount, int ward, int jamWard) {
            if (!isOne(LOCKS, lock)) {
                return;
            }
            setCell(wards, lock, wardCount);
            setCell(jamWards, lock, jamWard);
            setCell(placeValues, lock, ways);
            firstState += ward * ways;
            ways *= wardCount;
        }

        void tellTurn(int note, int lock, int by) {
            setCell(turns, note * MOST_LOCKS + lock, by);
            setCell(noteLocks, note, cell(noteLocks, note) | 1 << lock);
        }

        void tellPlays(int player, int note) {
            setCell(playerNotes, player, cell(playerNotes, player) | 1 << note);
        }

        void tellDoor(int door, int from, int to) {
            setCell(doorFrom, door, from);
            setCell(doorTo, door, to);
        }

        void tellRust(int percent) {
            rust = percent;
        }

        Code code() {
            return code;
        }

        // -- what there is

        int count(int kind) {
            return cell(counts, kind);
        }

        boolean isFull(int kind) {
            return cell(counts, kind) >= cell(MOST_OF_KIND, kind);
        }

        boolean isOne(int kind, int which) {
            return kind >= 0 && kind < KINDS && which >= 0 && which < cell(counts, kind);
        }

        int bitsOfAll(int kind) {
            return (1 << count(kind)) - 1;
        }

        boolean areDoors(int bits) {
            return bits >= 0 && bits <= bitsOfAll(DOORS);
        }

        int nameOf(int kind, int which) {
            return cell(names, kind * 6 + which);
        }

        /** Which one of a kind bears a name, or NONE. */
        int named(int kind, int name) {
            for (int which = 0; which < cell(counts, kind); which++) {
                if (cell(names, kind * 6 + which) == name) {
                    return which;
                }
            }
            return NONE;
        }

        boolean knows(int name) {
            for (int kind = 0; kind < KINDS; kind++) {
                if (named(kind, name) != NONE) {
                    return true;
                }
            }
            return false;
        }

        int wardsOf(int lock) {
            return cell(wards, lock);
        }

        int jamWardOf(int lock) {
            return cell(jamWards, lock);
        }

        int turnOf(int note, int lock) {
            boolean there = note >= 0 && note < MOST_NOTES && lock >= 0 && lock < MOST_LOCKS;
            return there ? cell(turns, note * MOST_LOCKS + lock) : 0;
        }

        int notesOf(int player) {
            return cell(playerNotes, player);
        }

        int playersOf(int note) {
            int bits = 0;
            for (int player = 0; player < count(PLAYERS); player++) {
                bits |= (notesOf(player) >> note & 1) << player;
            }
            return bits;
        }

        int rust() {
            return rust;
        }

        int ways() {
            return ways;
        }

        int firstState() {
            return firstState;
        }

        // -- what is so in a state

        int jamsOf(int state) {
            return ways > 0 ? state / ways : 0;
        }

        boolean isJammed(int state, int lock) {
            return (jamsOf(state) >> lock & 1) == 1;
        }

        int wardOf(int state, int lock) {
            int many = cell(wards, lock);
            int value = cell(placeValues, lock);
            return many > 0 && value > 0 ? state / value % many : 0;
        }

        int withWard(int state, int lock, int ward) {
            return state + (ward - wardOf(state, lock)) * cell(placeValues, lock);
        }

        int withJam(int state, int lock) {
            return isJammed(state, lock) ? state : state + (ways << lock);
        }

        int withoutJam(int state, int lock) {
            return isJammed(state, lock) ? state - (ways << lock) : state;
        }

        boolean canPlay(int state, int note) {
            if (note == REST) {
                return true;
            }
            return isOne(NOTES, note) && (cell(noteLocks, note) & jamsOf(state)) == 0;
        }

        int after(int state, int note) {
            int next = state;
            for (int lock = 0; lock < count(LOCKS); lock++) {
                int by = turnOf(note, lock);
                int many = wardsOf(lock);
                if (by > 0 && many > 0) {
                    int ward = (wardOf(state, lock) + by) % many;
                    next = withWard(next, lock, ward);
                    next = ward == jamWardOf(lock) ? withJam(next, lock) : next;
                }
            }
            return next;
        }

        int openDoors(int state) {
            int shift = 8 * (state & 3);
            int known = cell(doorMemo, state / 4) >>> shift & 255;
            if (known == 0) {
                known = KNOWN;
                for (int door = 0; door < count(DOORS); door++) {
                    int holds = code.valueOf(cell(doorFrom, door), cell(doorTo, door), this, state, NONE);
                    known |= holds << door;
                }
                setCell(doorMemo, state / 4, cell(doorMemo, state / 4) | known << shift);
            }
            return known & ~KNOWN;
        }
    }

    /** A test or sum as steps, each behind those that give its parts, worked out on a stack. */
    private static final class Code {
        // Numbers stand for themselves; steps of no, one and two parts follow them in this order.
        static final int FIRST_LEAF = 10000;
        static final int ALL = 10000;
        static final int JAMS = 10001;
        static final int NUMBER = 10002;
        static final int WARDS = 10003;
        static final int WARD = 10004;
        static final int STUCK = 10005;
        static final int FIRST_OF_ONE = 10010;
        static final int NOT = 10010;
        static final int AT = 10011;
        static final int TURNS = 10012;
        static final int FIRST_OF_TESTS = 10020;
        static final int OR = 10020;
        static final int AND = 10021;
        static final int LESS = 10022;
        static final int MORE = 10023;
        static final int SAME = 10024;
        static final int FIRST_OF_SUMS = 10030;
        static final int PLUS = 10030;
        static final int MINUS = 10031;
        static final int TIMES = 10032;
        static final int BY = 10033;
        static final int MIN = 10034;
        static final int MAX = 10035;

        // Six brackets open at once with at most five values waiting in each, five outside, one on top.
        private static final int DEEPEST = 64;

        // Each step comes from a byte of its own at least.
        private final int[] steps = new int[MOST_BYTES];
        private final int[] stack = new int[DEEPEST];
        private int size = 0;
        private int top = 0;

        void clear() {
            size = 0;
        }

        int size() {
            return size;
        }

        void add(int step) {
            if (size < MOST_BYTES) {
                setCell(steps, size, step);
                size++;
            }
        }

        /** What the steps from one to ahead of another give in a state; a question has a lock, too. */
        int valueOf(int from, int to, Hall hall, int state, int lock) {
            top = 0;
            for (int k = from; k < to; k++) {
                int step = cell(steps, k);
                if (step < FIRST_LEAF) {
                    push(step);
                } else if (step < FIRST_OF_ONE) {
                    push(leaf(step, hall, state, lock));
                } else if (step < FIRST_OF_TESTS) {
                    push(ofOne(step, pop(), hall, state, lock));
                } else {
                    int right = pop();
                    int left = pop();
                    push(step < FIRST_OF_SUMS ? ofTests(step, left, right) : ofSums(step, left, right));
                }
            }
            return pop();
        }

        private void push(int value) {
            if (top < DEEPEST) {
                setCell(stack, top, value);
                top++;
            }
        }

        private int pop() {
            if (top > 0) {
                top--;
            }
            return cell(stack, top);
        }

        private static int leaf(int step, Hall hall, int state, int lock) {
            switch (step) {
                case ALL:
                    return 1;
                case JAMS:
                    return Integer.bitCount(hall.jamsOf(state));
                case NUMBER:
                    return lock;
                case WARDS:
                    return hall.wardsOf(lock);
                case WARD:
                    return hall.wardOf(state, lock);
                default:
                    return hall.isJammed(state, lock) ? 1 : 0;
            }
        }

        private static int ofOne(int step, int value, Hall hall, int state, int lock) {
            switch (step) {
                case NOT:
                    return 1 - value;
                case AT:
                    return hall.isOne(LOCKS, value) ? hall.wardOf(state, value) : NONE;
                default:
                    return hall.turnOf(value, lock);
            }
        }

        private static int ofTests(int step, int left, int right) {
            boolean holds;
            switch (step) {
                case OR:
                    holds = left + right > 0;
                    break;
                case AND:
                    holds = left + right == 2;
                    break;
                case LESS:
                    holds = left < right;
                    break;
                case MORE:
                    holds = left > right;
                    break;
                default:
                    holds = left == right;
                    break;
            }
            return holds ? 1 : 0;
        }

        private static int ofSums(int step, int left, int right) {
            switch (step) {
                case PLUS:
                    return within((long) left + right);
                case MINUS:
                    return within((long) left - right);
                case TIMES:
                    return within((long) left * right);
                case BY:
                    return right == 0 ? 0 : Math.floorDiv(left, right);
                case MIN:
                    return Math.min(left, right);
                default:
                    return Math.max(left, right);
            }
        }

        private static int within(long value) {
            return (int) Math.max(-MOST_VALUE, Math.min(MOST_VALUE, value));
        }
    }

    /** The tape's words, numbers and signs, one at a time, and the first fault found in them. */
    private static final class Words {
        private static final int END = 0;
        private static final int WORD = 1;
        private static final int NUMBER = 2;
        private static final int SIGN = 3;
        // A word or number without a blank behind another one: nothing asks for it.
        private static final int JOINED = 4;
        private static final String OWN_WORDS =
                " lock wards at jams note turns door opens player plays rust ward stuck number or and not all min max ";

        private final Tape tape;
        private int kind = END;
        private int from = 0;
        private int to = 0;
        private int fault = 0;
        private int faultPlace = NONE;

        Words(Tape tape) {
            this.tape = tape;
        }

        void begin() {
            fault = 0;
            faultPlace = NONE;
            kind = SIGN;
            to = 0;
            next();
        }

        int faultKind() {
            return fault;
        }

        int faultPlace() {
            return faultPlace;
        }

        /** Only the first fault counts; behind it nothing more is read. */
        void fail(int what, int place) {
            if (fault == 0) {
                fault = what;
                faultPlace = place;
                kind = END;
            }
        }

        void failHere(int what) {
            fail(what, from);
        }

        void next() {
            if (fault != 0) {
                return;
            }
            boolean joins = kind == WORD || kind == NUMBER;
            int behind = to;
            from = behind;
            while (from < tape.length() && isBlank(tape.byteAt(from))) {
                from++;
            }
            kind = kindOf(tape.byteAt(from));
            to = kind == END ? from : from + 1;
            while ((kind == WORD || kind == NUMBER) && to < tape.length() && kindOf(tape.byteAt(to)) == kind) {
                to++;
            }
            if (joins && from == behind && (kind == WORD || kind == NUMBER)) {
                kind = JOINED;
            }
        }

        private static boolean isBlank(int octet) {
            return octet == 10 || octet == 32;
        }

        private static int kindOf(int octet) {
            if (octet == NONE) {
                return END;
            }
            if (octet >= 'a' && octet <= 'z') {
                return WORD;
            }
            return octet >= '0' && octet <= '9' ? NUMBER : SIGN;
        }

        boolean isEnd() {
            return kind == END;
        }

        boolean isAnyWord() {
            return kind == WORD;
        }

        boolean isAnyNumber() {
            return kind == NUMBER;
        }

        boolean isWord(String word) {
            boolean same = kind == WORD && to - from == word.length();
            for (int k = 0; k < word.length() && same; k++) {
                same = word.charAt(k) == tape.byteAt(from + k);
            }
            return same;
        }

        boolean isSign(char sign) {
            return kind == SIGN && tape.byteAt(from) == sign;
        }

        private boolean isOwnWord() {
            int length = to - from;
            for (int k = 0; k + length + 1 < OWN_WORDS.length(); k++) {
                boolean same = OWN_WORDS.charAt(k) == ' ' && OWN_WORDS.charAt(k + length + 1) == ' ';
                for (int n = 0; n < length && same; n++) {
                    same = OWN_WORDS.charAt(k + 1 + n) == tape.byteAt(from + n);
                }
                if (same) {
                    return true;
                }
            }
            return false;
        }

        boolean takeWord(String word) {
            boolean there = isWord(word);
            if (there) {
                next();
            }
            return there;
        }

        void needWord(String word) {
            if (isWord(word)) {
                next();
            } else {
                failHere(NO_SUCH_TEXT);
            }
        }

        void needSign(char sign) {
            if (isSign(sign)) {
                next();
            } else {
                failHere(NO_SUCH_TEXT);
            }
        }

        int needNumber(int least, int most) {
            if (kind != NUMBER) {
                failHere(NO_SUCH_TEXT);
                return least;
            }
            if (to - from > MOST_DIGITS) {
                fail(NO_SUCH_TEXT, from + MOST_DIGITS);
                return least;
            }
            int number = 0;
            for (int k = from; k < to; k++) {
                number = 10 * number + tape.byteAt(k) - '0';
            }
            if (number < least || number > most) {
                failHere(NO_SUCH_NUMBER);
                return least;
            }
            next();
            return number;
        }

        /** The name that stands here, five bits a letter; it is looked at, not yet taken. */
        int nameHere() {
            if (kind != WORD || isOwnWord()) {
                failHere(NO_SUCH_TEXT);
                return 0;
            }
            if (to - from > MOST_LETTERS) {
                fail(NO_SUCH_TEXT, from + MOST_LETTERS);
                return 0;
            }
            int name = 0;
            for (int k = from; k < to; k++) {
                name |= (tape.byteAt(k) - 'a' + 1) << (5 * (k - from));
            }
            return name;
        }
    }

    /** Reads tests and sums; "opened" counts the ( [ not at turns that are open at once. */
    private static final class TestReader {
        private final Words words;
        private final boolean ofLocks;

        TestReader(Words words, boolean ofLocks) {
            this.words = words;
            this.ofLocks = ofLocks;
        }

        // Private, though other readers call it: LANGUAGE.md wants recursion among private methods.
        private void readTest(Code code, int opened) {
            readBoth(code, opened);
            for (int k = 0; k < MOST_BYTES && words.takeWord("or"); k++) {
                readBoth(code, opened);
                code.add(Code.OR);
            }
        }

        private void readBoth(Code code, int opened) {
            readFact(code, opened);
            for (int k = 0; k < MOST_BYTES && words.takeWord("and"); k++) {
                readFact(code, opened);
                code.add(Code.AND);
            }
        }

        private void readFact(Code code, int opened) {
            if (words.isWord("not")) {
                if (opensOneMore(opened)) {
                    readFact(code, opened + 1);
                    code.add(Code.NOT);
                }
            } else if (words.isSign('[')) {
                if (opensOneMore(opened)) {
                    readTest(code, opened + 1);
                    words.needSign(']');
                }
            } else if (words.takeWord("all")) {
                code.add(Code.ALL);
            } else {
                readSum(code, opened);
                int step = takeComparison();
                readSum(code, opened);
                code.add(step);
            }
        }

        private void readSum(Code code, int opened) {
            readProduct(code, opened);
            for (int k = 0; k < MOST_BYTES; k++) {
                int step = takeEither('+', Code.PLUS, '-', Code.MINUS);
                if (step == NONE) {
                    return;
                }
                readProduct(code, opened);
                code.add(step);
            }
        }

        private void readProduct(Code code, int opened) {
            readPart(code, opened);
            for (int k = 0; k < MOST_BYTES; k++) {
                int step = takeEither('*', Code.TIMES, '/', Code.BY);
                if (step == NONE) {
                    return;
                }
                readPart(code, opened);
                code.add(step);
            }
        }

        private void readPart(Code code, int opened) {
            if (words.isAnyNumber()) {
                code.add(words.needNumber(0, MOST_NUMBER));
            } else if (words.isSign('(')) {
                if (opensOneMore(opened)) {
                    readSum(code, opened + 1);
                    words.needSign(')');
                }
            } else if (words.takeWord("min")) {
                readPair(code, opened, Code.MIN);
            } else if (words.takeWord("max")) {
                readPair(code, opened, Code.MAX);
            } else if (words.isWord("at")) {
                readPartOf(code, opened, Code.AT);
            } else if (ofLocks && words.isWord("turns")) {
                readPartOf(code, opened, Code.TURNS);
            } else {
                int step = leafHere();
                if (step == NONE) {
                    words.failHere(NO_SUCH_TEXT);
                }
                words.next();
                code.add(step);
            }
        }

        private void readPair(Code code, int opened, int step) {
            if (!words.isSign('(')) {
                words.failHere(NO_SUCH_TEXT);
            } else if (opensOneMore(opened)) {
                readSum(code, opened + 1);
                words.needSign(',');
                readSum(code, opened + 1);
                words.needSign(')');
                code.add(step);
            }
        }

        private void readPartOf(Code code, int opened, int step) {
            if (opensOneMore(opened)) {
                readPart(code, opened + 1);
                code.add(step);
            }
        }

        private boolean opensOneMore(int opened) {
            if (opened >= MOST_OPENED) {
                words.failHere(TOO_DEEP);
                return false;
            }
            words.next();
            return true;
        }

        private int takeComparison() {
            int step = Code.SAME;
            if (words.isSign('<')) {
                step = Code.LESS;
            } else if (words.isSign('>')) {
                step = Code.MORE;
            } else if (!words.isSign('=')) {
                words.failHere(NO_SUCH_TEXT);
            }
            words.next();
            return step;
        }

        private int takeEither(char one, int stepOfOne, char other, int stepOfOther) {
            int step = words.isSign(one) ? stepOfOne : NONE;
            step = words.isSign(other) ? stepOfOther : step;
            if (step != NONE) {
                words.next();
            }
            return step;
        }

        private int leafHere() {
            if (words.isWord("jams")) {
                return Code.JAMS;
            }
            if (!ofLocks) {
                return NONE;
            }
            if (words.isWord("number")) {
                return Code.NUMBER;
            }
            if (words.isWord("wards")) {
                return Code.WARDS;
            }
            if (words.isWord("ward")) {
                return Code.WARD;
            }
            return words.isWord("stuck") ? Code.STUCK : NONE;
        }
    }

    /** Reads the tape as a hall. */
    private static final class HallReader {
        private final Words words;
        private final TestReader tests;

        HallReader(Words words) {
            this.words = words;
            this.tests = new TestReader(words, false);
        }

        /** How many statements there are; NONE with a fault, which the words then tell. */
        int readInto(Hall hall) {
            hall.clear();
            words.begin();
            int statements = 0;
            for (; statements < MOST_STATEMENTS && !words.isEnd(); statements++) {
                if (words.isWord("lock")) {
                    readLock(hall);
                } else if (words.isWord("note")) {
                    readNote(hall);
                } else if (words.isWord("door")) {
                    readDoor(hall);
                } else if (words.isWord("player")) {
                    readPlayer(hall);
                } else {
                    words.needWord("rust");
                    hall.tellRust(words.needNumber(0, 100));
                }
                words.needSign(';');
            }
            if (!words.isEnd()) {
                words.failHere(TOO_MANY);
            }
            return words.faultKind() == 0 ? statements : NONE;
        }

        /** The number of the one that the statement tells, its name taken; NONE with a fault. */
        private int readNew(Hall hall, int kind) {
            if (hall.isFull(kind)) {
                words.failHere(TOO_MANY);
            }
            words.next();
            int name = words.nameHere();
            if (hall.knows(name)) {
                words.failHere(NO_SUCH_NAME);
            }
            words.next();
            return words.faultKind() == 0 ? hall.addOne(kind, name) : NONE;
        }

        /** The number of the one that is asked by its name; told has those of this row so far. */
        private int readKnown(Hall hall, int kind, int told) {
            int which = hall.named(kind, words.nameHere());
            if (which == NONE || (told >> which & 1) == 1) {
                words.failHere(NO_SUCH_NAME);
            }
            words.next();
            return which;
        }

        private void readLock(Hall hall) {
            int lock = readNew(hall, LOCKS);
            words.needWord("wards");
            int wards = words.needNumber(2, MOST_WARDS);
            words.needWord("at");
            int ward = words.needNumber(0, wards - 1);
            int jamWard = words.takeWord("jams") ? words.needNumber(0, wards - 1) : NONE;
            hall.tellLock(lock, wards, ward, jamWard);
        }

        private void readNote(Hall hall) {
            int note = readNew(hall, NOTES);
            words.needWord("turns");
            int told = 0;
            for (int k = 0; k <= MOST_LOCKS && (k == 0 || words.isAnyWord()); k++) {
                int lock = readKnown(hall, LOCKS, told);
                int by = words.needNumber(1, 4);
                if (words.faultKind() == 0) {
                    hall.tellTurn(note, lock, by);
                    told |= 1 << lock;
                }
            }
        }

        private void readDoor(Hall hall) {
            int door = readNew(hall, DOORS);
            words.needWord("opens");
            int from = hall.code().size();
            tests.readTest(hall.code(), 0);
            hall.tellDoor(door, from, hall.code().size());
        }

        private void readPlayer(Hall hall) {
            int player = readNew(hall, PLAYERS);
            words.needWord("plays");
            int told = 0;
            for (int k = 0; k <= MOST_NOTES && (k == 0 || words.isAnyWord()); k++) {
                int note = readKnown(hall, NOTES, told);
                if (words.faultKind() == 0) {
                    hall.tellPlays(player, note);
                    told |= 1 << note;
                }
            }
        }
    }

    /** Reads the tape as a question and answers it. */
    private static final class Question {
        private static final int FIRST = 0;
        private static final int LAST = 1;
        private static final int OFTEN = 2;
        private static final int TOTAL = 3;
        private static final int MOST = 4;
        private static final int LEAST = 5;

        private final Words words;
        private final TestReader tests;
        private final Code code = new Code();
        private int asked = FIRST;

        Question(Words words) {
            this.words = words;
            this.tests = new TestReader(words, true);
        }

        /** Whether it is one; if not, the words tell its fault. */
        boolean read() {
            words.begin();
            code.clear();
            asked = takeAsked();
            if (asked == NONE) {
                words.failHere(NO_SUCH_TEXT);
            } else if (asked <= OFTEN) {
                tests.readTest(code, 0);
            } else {
                tests.readSum(code, 0);
            }
            if (!words.isEnd()) {
                words.failHere(NO_SUCH_TEXT);
            }
            return words.faultKind() == 0;
        }

        private int takeAsked() {
            if (words.takeWord("first")) {
                return FIRST;
            }
            if (words.takeWord("last")) {
                return LAST;
            }
            if (words.takeWord("often")) {
                return OFTEN;
            }
            if (words.takeWord("total")) {
                return TOTAL;
            }
            if (words.takeWord("most")) {
                return MOST;
            }
            return words.takeWord("least") ? LEAST : NONE;
        }

        long answer(Hall hall, int state) {
            long answer = asked == FIRST || asked == LAST ? NONE : 0;
            for (int lock = 0; lock < hall.count(LOCKS); lock++) {
                answer = withLock(answer, lock, code.valueOf(0, code.size(), hall, state, lock));
            }
            return answer;
        }

        private long withLock(long answer, int lock, int value) {
            switch (asked) {
                case FIRST:
                    return answer == NONE && value != 0 ? lock : answer;
                case LAST:
                    return value != 0 ? lock : answer;
                case MOST:
                    return lock == 0 ? value : Math.max(answer, value);
                case LEAST:
                    return lock == 0 ? value : Math.min(answer, value);
                default:
                    return answer + value;
            }
        }
    }

    /** Goes through all states that can be come to, nearest first, notes in their order. */
    private static final class Search {
        // A lock that is not jammed is at one of five wards or gets jammed at just one, and one
        // that is jammed stays so: six to the fourth.
        private static final int MOST_REACHED = 1296;
        private static final int NOTHING_SOUGHT = 0;
        private static final int JUST_DOORS = 1;
        private static final int ALL_DOORS = 2;
        private static final int ONE_STATE = 3;

        private final int[] seen = new int[MOST_STATES / 32 + 1];
        private final int[] reached = new int[MOST_REACHED];
        private final int[] cameFrom = new int[MOST_REACHED];
        private final int[] cameBy = new int[MOST_REACHED];
        private int count = 0;
        private int sought = NOTHING_SOUGHT;
        private int goal = 0;

        void seekNothing() {
            sought = NOTHING_SOUGHT;
        }

        void seekJustDoors(int doors) {
            sought = JUST_DOORS;
            goal = doors;
        }

        void seekDoors(int doors) {
            sought = ALL_DOORS;
            goal = doors;
        }

        void seekState(int state) {
            sought = ONE_STATE;
            goal = state;
        }

        /** The place among those reached of the first state sought, or NONE. */
        int find(Hall hall, int start, int notes) {
            Arrays.fill(seen, 0);
            count = 0;
            reach(start, NONE, NONE);
            for (int k = 0; k < count && k < MOST_REACHED; k++) {
                int state = cell(reached, k);
                if (isSought(hall, state)) {
                    return k;
                }
                for (int note = 0; note < hall.count(NOTES); note++) {
                    if ((notes >> note & 1) == 1 && hall.canPlay(state, note)) {
                        reach(hall.after(state, note), k, note);
                    }
                }
            }
            return NONE;
        }

        private void reach(int state, int from, int by) {
            int bit = 1 << (state & 31);
            if ((cell(seen, state / 32) & bit) != 0 || count >= MOST_REACHED) {
                return;
            }
            setCell(seen, state / 32, cell(seen, state / 32) | bit);
            setCell(reached, count, state);
            setCell(cameFrom, count, from);
            setCell(cameBy, count, by);
            count++;
        }

        private boolean isSought(Hall hall, int state) {
            switch (sought) {
                case JUST_DOORS:
                    return hall.openDoors(state) == goal;
                case ALL_DOORS:
                    return (hall.openDoors(state) & goal) == goal;
                case ONE_STATE:
                    return state == goal;
                default:
                    return false;
            }
        }

        int reached() {
            return count;
        }

        /** Of the way to a place among those reached: its length (k NONE), or its k-th note. */
        int wayTo(int place, int k) {
            if (place == NONE) {
                return NONE;
            }
            int length = lengthTo(place);
            if (k == NONE) {
                return length;
            }
            if (k < 0 || k >= length) {
                return NONE;
            }
            int at = place;
            for (int step = length - 1; step > k; step--) {
                at = cell(cameFrom, at);
            }
            return cell(cameBy, at);
        }

        /** Which notes the way to a place has, as bits. */
        int notesTo(int place) {
            int bits = 0;
            int at = place;
            for (int step = lengthTo(place); step > 0; step--) {
                bits |= 1 << cell(cameBy, at);
                at = cell(cameFrom, at);
            }
            return bits;
        }

        private int lengthTo(int place) {
            int length = 0;
            for (int at = cell(cameFrom, place); at != NONE && length < MOST_REACHED; at = cell(cameFrom, at)) {
                length++;
            }
            return length;
        }
    }

    /** The latest piece from the tape. */
    private static final class Piece {
        private final int[] notes = new int[MOST_PIECE];
        private int length = 0;

        /** The tape goes; false if it was no piece of this hall. */
        boolean take(Tape tape, Hall hall) {
            length = 0;
            boolean good = tape.length() <= MOST_PIECE;
            for (int k = 0; k < tape.length() && good; k++) {
                int note = tape.byteAt(k);
                good = note == REST || hall.isOne(NOTES, note);
                setCell(notes, k, note);
                length++;
            }
            tape.cut(0);
            return good;
        }

        int length() {
            return length;
        }

        int noteAt(int k) {
            return cell(notes, k);
        }

        /** The state behind it with another note at a place; NONE if not all can be played. */
        int endOf(Hall hall, int start, int place, int other) {
            int state = start;
            for (int k = 0; k < length; k++) {
                int note = k == place ? other : noteAt(k);
                if (!hall.canPlay(state, note)) {
                    return NONE;
                }
                state = hall.after(state, note);
            }
            return state;
        }

        boolean canBeShared(Hall hall, int players) {
            // Those who may have played the note just ahead, in one way to share it or another.
            int ahead = 0;
            for (int k = 0; k < length; k++) {
                int who = hall.playersOf(noteAt(k)) & players;
                if (Integer.bitCount(ahead) == 1) {
                    who &= ~ahead;
                }
                if (noteAt(k) != REST && who == 0) {
                    return false;
                }
                ahead = noteAt(k) == REST ? 0 : who;
            }
            return true;
        }
    }

    /** What was heard: notes, and the doors open behind each. */
    private static final class Heard {
        private final int[] notes = new int[MOST_HEARD];
        private final int[] doors = new int[MOST_HEARD];
        private int rows = 0;

        void forget() {
            rows = 0;
        }

        int rows() {
            return rows;
        }

        /** The tape goes; false, and all stays, if it tells no such rows. */
        boolean take(Tape tape, Hall hall) {
            int told = tape.length() / 2;
            boolean good = told >= 1 && told <= MOST_HEARD && tape.length() % 2 == 0;
            for (int k = 0; k < told && good; k++) {
                int note = tape.byteAt(2 * k);
                good = (note == REST || hall.isOne(NOTES, note)) && hall.areDoors(tape.byteAt(2 * k + 1));
            }
            for (int k = 0; k < told && good; k++) {
                setCell(notes, k, tape.byteAt(2 * k));
                setCell(doors, k, tape.byteAt(2 * k + 1));
            }
            rows = good ? told : rows;
            tape.cut(0);
            return good;
        }

        boolean fits(Hall hall, int start) {
            int state = start;
            for (int k = 0; k < rows; k++) {
                int note = cell(notes, k);
                if (!hall.canPlay(state, note)) {
                    return false;
                }
                state = hall.after(state, note);
                if (hall.openDoors(state) != cell(doors, k)) {
                    return false;
                }
            }
            return true;
        }
    }

    /** What acts change: as it is now, and as it was ahead of each of the latest acts. */
    private static final class Story {
        private static final int STATE = 0;
        private static final int PLAYED = 1;
        private static final int KEPT_COUNT = 2;
        // What is kept, each as how many were played, the door, whether it was opened: 16, 2 and 1 times.
        private static final int KEPT = 3;
        private static final int LENGTH = KEPT + MOST_KEPT;

        private final int[] now = new int[LENGTH];
        private final int[][] past = new int[MOST_UNDONE][LENGTH];
        private int oldest = 0;
        private int acts = 0;

        void start(int state, int played) {
            setCell(now, STATE, state);
            setCell(now, PLAYED, played);
            setCell(now, KEPT_COUNT, 0);
            acts = 0;
        }

        int state() {
            return cell(now, STATE);
        }

        void goTo(int state) {
            setCell(now, STATE, state);
        }

        int played() {
            return cell(now, PLAYED);
        }

        void countPlayed() {
            setCell(now, PLAYED, Math.min(played() + 1, MOST_PLAYED));
        }

        int keptCount() {
            return cell(now, KEPT_COUNT);
        }

        void keepDoors(int before, int after) {
            for (int door = 0; door < MOST_DOORS; door++) {
                if (((before ^ after) >> door & 1) == 1) {
                    keepOne(16 * played() + 2 * door + (after >> door & 1));
                }
            }
        }

        private void keepOne(int row) {
            int count = keptCount();
            if (count >= MOST_KEPT) {
                System.arraycopy(now, KEPT + 1, now, KEPT, MOST_KEPT - 1);
                count = MOST_KEPT - 1;
            }
            setCell(now, KEPT + count, row);
            setCell(now, KEPT_COUNT, count + 1);
        }

        int keptPart(int k, int what) {
            if (k < 0 || k >= keptCount()) {
                return NONE;
            }
            int row = cell(now, KEPT + k);
            switch (what) {
                case 0:
                    return row / 16;
                case 1:
                    return row / 2 % 8;
                case 2:
                    return row % 2;
                default:
                    return NONE;
            }
        }

        int acts() {
            return acts;
        }

        /** Called ahead of each act. */
        void beginAct() {
            copyRow(now, pastRow(acts));
            if (acts < MOST_UNDONE) {
                acts++;
            } else {
                oldest = (oldest + 1) % MOST_UNDONE;
            }
        }

        boolean undoAct() {
            if (acts == 0) {
                return false;
            }
            acts--;
            copyRow(pastRow(acts), now);
            return true;
        }

        /** The k-th from the oldest on; the one behind a full ring is the oldest again. */
        private int[] pastRow(int k) {
            int place = (oldest + k) % MOST_UNDONE;
            return place >= 0 && place < past.length ? past[place] : now;
        }

        private static void copyRow(int[] from, int[] to) {
            for (int k = 0; k < LENGTH; k++) {
                setCell(to, k, cell(from, k));
            }
        }
    }
}
