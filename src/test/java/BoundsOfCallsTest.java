import java.util.Arrays;

/** Promises 1 to 35: each bound, each refusal, each NONE that a promise names. */
public final class BoundsOfCallsTest {
    private static final int MIN = Integer.MIN_VALUE;
    private static final int MAX = Integer.MAX_VALUE;
    // m jams a at 2; two players, three doors
    private static final String HALL = "lock a wards 3 at 0 jams 2;lock bb wards 5 at 4;note n turns a 1;note m turns a 2 bb 3;"
        + "door d opens at 0=1;door e opens at 1=2;door f opens jams>0;player p plays n;player q plays n m;rust 0;";

    public static void main(String[] args) {
        Sentence.of("What it is", "An object is used for at most 512 calls after it has been made;", BoundsOfCallsTest::manyCalls);
        Sentence.of("Terms", "`NONE = -1`: There is none; it is refused.", BoundsOfCallsTest::noneIsBelowZero);
        Sentence.of("Terms", "`NOTHING = -1000000000000000L`: Told where a number below 0 may be one.",
            BoundsOfCallsTest::nothingIsFarBelow);
        tapeAndHall();
        whatThereIs();
        pieces();
        searches();
        heardAndActs();
        imagesAndRefusals();
        Sentence.allPromises(35);
        Check.end("BoundsOfCallsTest");
    }

    private static void tapeAndHall() {
        Sentence.of("1", "No LOCKS, no DOORS.", BoundsOfCallsTest::newObject);
        Sentence.of("2", "Twenty bytes come behind those on the tape, of each number the highest first: how many there are;",
            BoundsOfCallsTest::fed);
        Sentence.of("2", "NONE, refused (0), if there would be more than 1600.", BoundsOfCallsTest::fedTooMany);
        Sentence.of("3", "The tape has its first n bytes alone: true;", BoundsOfCallsTest::ended);
        Sentence.of("3", "false, refused (0), if it has not so many, or n is below 0.", BoundsOfCallsTest::endRefused);
        Sentence.of("4", "The tape (it goes) is THE HALL: how many STATEMENTS;", BoundsOfCallsTest::hallTakesTheTape);
        Sentence.of("4", "NONE, refused (1), with a FAULT (all stays).", BoundsOfCallsTest::hallWithAFault);
        Sentence.of("4", "Without one all is as at first, nothing is KEPT, HEARD or can be undone; the seed stays.",
            BoundsOfCallsTest::hallWithoutAFault);
        Sentence.of("5", "Of the latest hall() or ask(): its FAULT (what 0; 0 without, and ahead of any), its place (1; NONE without).",
            BoundsOfCallsTest::latestFault);
        Sentence.of("5", "NONE for another what.", () -> others("fault", what -> new LockOrchestra().fault(what), 0, -1));
    }

    private static void whatThereIs() {
        Sentence.of("6", "NONE for others.", BoundsOfCallsTest::hasOthers);
        Sentence.of("7", "Letter k (0 .. 5) of the NAME of a LOCK (kind 0), a NOTE (1), a DOOR (2), a PLAYER (3): 1 .. 26; 0 behind it;",
            BoundsOfCallsTest::letters);
        Sentence.of("7", "NONE when there is none such.", BoundsOfCallsTest::noLetters);
        Sentence.of("8", "3 at which it jams (NONE), 4 whether it is JAMMED.", BoundsOfCallsTest::locks);
        Sentence.of("8", "NONE when there is none such, or for others.", BoundsOfCallsTest::noLocks);
        Sentence.of("9", "10 and l: by how many WARDS it turns LOCK l (0: not).", BoundsOfCallsTest::notes);
        Sentence.of("9", "NONE when there is none such, or for others.", BoundsOfCallsTest::noNotes);
        Sentence.of("10", "NONE when there is none such.", BoundsOfCallsTest::doors);
        Sentence.of("11", "NONE when there is none such.", BoundsOfCallsTest::players);
        Sentence.of("12", "the k-th from the oldest on:", BoundsOfCallsTest::keptInOrder);
        Sentence.of("12", "NONE when there is none such, or for others.", BoundsOfCallsTest::noKept);
    }

    private static void pieces() {
        Sentence.of("13", "The tape (it goes) is a PIECE: how many of it CAN BE PLAYED one behind the other;", BoundsOfCallsTest::judge);
        Sentence.of("13", "NONE, refused (1), when it is none such.", BoundsOfCallsTest::judgeRefused);
        Sentence.of("14", "Of the latest judge() of this HALL: 0 DOORS OPEN behind what CAN BE PLAYED, 1 LOCKS JAMMED then, as bits,"
            + " 2 how often DOORS were opened in it.", BoundsOfCallsTest::judged);
        Sentence.of("14", "NONE ahead of any, or for others.", BoundsOfCallsTest::nothingJudged);
        Sentence.of("19", "PLAYERS as bits; NONE when it can't be, and, refused (1), when it is none such.", BoundsOfCallsTest::share);
        Sentence.of("20", "The tape (it goes) is a PIECE with a SLIP, told DOORS (bits) OPEN at the end: how many such;",
            BoundsOfCallsTest::slip);
        Sentence.of("20", "NONE, refused (1), when it is none such, or they are none.", BoundsOfCallsTest::slipRefused);
        Sentence.of("21", "Of the latest slip() of this HALL that was not refused:", BoundsOfCallsTest::slipped);
        Sentence.of("21", "NONE without, or for others.", BoundsOfCallsTest::nothingSlipped);
    }

    private static void searches() {
        Sentence.of("15", "how long (k NONE), its k-th NOTE.", BoundsOfCallsTest::shortest);
        Sentence.of("15", "NONE when there is none, they are none such, or for others.", BoundsOfCallsTest::noShortest);
        Sentence.of("16", "The way BACK: how long (k NONE), its k-th NOTE. NONE when there is none, or for others.",
            BoundsOfCallsTest::back);
        Sentence.of("17", "How many STATES can be COME TO.", BoundsOfCallsTest::states);
        Sentence.of("18", "NONE when they are all OPEN now, or they are none such.", BoundsOfCallsTest::forbid);
    }

    private static void heardAndActs() {
        Sentence.of("22", "The tape (it goes) tells HEARD, 1 to 20 rows of two bytes, NOTE or 6, DOORS as bits: how many rows;",
            BoundsOfCallsTest::hear);
        Sentence.of("22", "NONE, refused (1), all staying, when it is none such.", BoundsOfCallsTest::hearRefused);
        Sentence.of("23", "how many (what 0), the least (1), the greatest (2; NONE of both without).", BoundsOfCallsTest::starts);
        Sentence.of("23", "NONE ahead of any, or for others.", BoundsOfCallsTest::noStarts);
        Sentence.of("24", "those by which alone, turned by any number of WARDS from now on, it would be opened or shut (JAMMED as now).",
            BoundsOfCallsTest::hangs);
        Sentence.of("24", "NONE when there is none such.", BoundsOfCallsTest::noHangs);
        Sentence.of("25", "A NOTE, or 6, is PLAYED: DOORS OPEN then, as bits; NONE, refused (2), when it can't be.", BoundsOfCallsTest::play);
        Sentence.of("26", "how many were; NONE, refused (2), when it is none such, or of no length.", BoundsOfCallsTest::piece);
        Sentence.of("27", "true; false, refused (3), when it is not JAMMED.", BoundsOfCallsTest::oil);
        Sentence.of("28", "An EVENING of n turns by the seed (1 .. 50), one ACT: how many NOTES were PLAYED;", BoundsOfCallsTest::evening);
        Sentence.of("28", "NONE, refused (3), when n can't be, or there are no NOTES.", BoundsOfCallsTest::eveningRefused);
        Sentence.of("29", "The latest ACT is undone (the seed stays): true;", BoundsOfCallsTest::undo);
        Sentence.of("29", "false, refused (4), when none can be.", BoundsOfCallsTest::undoRefused);
        Sentence.of("30", "false, refused (5), when it is below 0. (It is 1 at first.)", BoundsOfCallsTest::seed);
    }

    private static void imagesAndRefusals() {
        Sentence.of("31", "NONE of first, last, when its TEST holds for none; NOTHING with a FAULT.", BoundsOfCallsTest::ask);
        Sentence.of("32", "AN IMAGE is written: how many bytes.", BoundsOfCallsTest::image);
        Sentence.of("33", "Byte k of the latest image(); NONE when there is none such.", BoundsOfCallsTest::octet);
        Sentence.of("34", "The tape (it goes) is AN IMAGE of this HALL: true, all is as it tells, nothing is KEPT or can be undone;",
            BoundsOfCallsTest::on);
        Sentence.of("34", "false, refused (5), when it is none (9999 PLAYED at most; WARDS that there are), all staying.",
            BoundsOfCallsTest::onRefused);
        Sentence.of("35", "How many were refused: 0 feed(), end(); 1 hall(), judge(), share(), slip(), hear(); 2 play(), piece();"
            + " 3 oil(), evening(); 4 undo(); 5 seed(), on().", BoundsOfCallsTest::status);
        Sentence.of("35", "NONE for others.", () -> others("status", what -> new LockOrchestra().status(what), 0, 0, 0, 0, 0, 0));
    }

    // ---- what the tests share

    private interface Call {
        int of(int what);
    }

    /** From 0 on a call answers these, and NONE for all others. */
    private static void others(String name, Call call, int... due) {
        for (int what = -3; what < due.length + 3; what++) {
            boolean there = what >= 0 && what < due.length;
            Check.due(name + "(" + what + ")", there ? due[what] : -1, call.of(what));
        }
        for (int what : new int[] {MIN, MIN + 1, -256, 255, 256, 1 << 16, MAX - 1, MAX}) {
            Check.due(name + "(" + what + ")", -1, call.of(what));
        }
    }

    private static void tapeIs(LockOrchestra x, int length) {
        Check.due("the tape has no more than " + length, false, x.end(length + 1));
        Check.due("the tape has " + length, true, x.end(length));
    }

    private static int[] rests(int many) {
        int[] piece = new int[many];
        Arrays.fill(piece, 6);
        return piece;
    }

    private static int[] withLast(int... octets) {
        int[] image = Arrays.copyOf(octets, octets.length + 1);
        int check = 11;
        for (int octet : octets) {
            check = (3 * check + octet) % 251;
        }
        image[octets.length] = check;
        return image;
    }

    /** All that can be asked of a hall of two locks at most without changing it. */
    private static String picture(LockOrchestra x) {
        StringBuilder all = new StringBuilder();
        for (int what = 0; what <= 10; what++) {
            all.append(" has ").append(x.has(what));
        }
        for (int k = 0; k < 5; k++) {
            all.append(" lock ").append(x.lock(0, k)).append(' ').append(x.lock(1, k));
        }
        for (int k = 0; k < 3; k++) {
            all.append(" judged ").append(x.judged(k)).append(" starts ").append(x.starts(k)).append(" slipped ").append(x.slipped(k));
            all.append(" player ").append(x.player(k)).append(" note ").append(x.note(k, 10)).append(" kept ").append(x.kept(0, k));
        }
        return all.append(" letter ").append(x.letter(0, 1, 1)).append(" states ").append(x.states()).toString();
    }

    private static void same(String why, String before, LockOrchestra x) {
        String after = picture(x);
        Check.due("whether all stays, " + why + "\n   ahead of it" + before + "\n   behind it  " + after, true, before.equals(after));
    }

    /** In which much has happened: played, kept, heard, judged, slipped. */
    private static LockOrchestra busy() {
        LockOrchestra x = Check.orchestra(HALL);
        x.play(0);
        x.play(6);
        Check.hear(x, 0, 1, 6, 1);
        Check.judge(x, 1);
        Check.slip(x, 1, 6);
        return x;
    }

    // ---- an object's calls, the constants

    private static void manyCalls() {
        // 3 calls for the hall, then as many notes as are left but for the last call
        LockOrchestra x = new LockOrchestra();
        x.feed(0x6c6f636b, 0x20612077, 0x61726473, 0x20322061, 0x7420303b); // "lock a wards 2 at 0;"
        x.feed(0x6e6f7465, 0x206e2074, 0x75726e73, 0x20612031, 0x3b202020); // "note n turns a 1;"
        Check.due("hall()", 2, x.hall());
        for (int call = 4; call < 512; call++) {
            Check.due("call " + call, 0, x.play(0));
        }
        Check.due("has(5), call 512", 508, x.has(5));
        // 512 that are refused are all counted
        x = new LockOrchestra();
        for (int call = 1; call < 512; call++) {
            Check.due("call " + call, false, x.undo());
        }
        Check.due("status(4), call 512", 511, x.status(4));
        // a tape that is full and cut again and again
        x = new LockOrchestra();
        for (int call = 1; call < 512; call++) {
            Check.due("call " + call, call <= 80 ? 20 * call : -1, x.feed(-1, -1, -1, -1, -1));
        }
        Check.due("status(0), call 512", 431, x.status(0));
        // halls one behind the other: 2 calls each, with an act between them
        x = new LockOrchestra();
        for (int call = 1; call < 511; call += 3) {
            x.feed(0x6c6f636b, 0x20612077, 0x61726473, 0x20322061, 0x7420303b);
            Check.due("call " + (call + 1), 1, x.hall());
            Check.due("call " + (call + 2), 0, x.play(6));
        }
        Check.due("undo()", true, x.undo());
        Check.due("undo(), call 512", false, x.undo());
    }

    private static void noneIsBelowZero() {
        Check.due("NONE", -1, LockOrchestra.NONE);
        LockOrchestra x = new LockOrchestra();
        Check.due("there is none", LockOrchestra.NONE, x.lock(0, 0));
        Check.due("it is refused", LockOrchestra.NONE, x.play(0));
    }

    private static void nothingIsFarBelow() {
        Check.due("NOTHING", -1_000_000_000_000_000L, LockOrchestra.NOTHING);
        LockOrchestra x = Check.orchestra(HALL);
        Check.due("a fault", LockOrchestra.NOTHING, Check.ask(x, "total"));
        Check.due("a number below 0", -1, Check.ask(x, "least at 9"));
        Check.due("the least of all", -2000000, Check.ask(x, "total 0-9999*9999"));
    }

    // ---- the tape, the hall

    private static void newObject() {
        LockOrchestra x = new LockOrchestra();
        for (int what = 0; what <= 10; what++) {
            Check.due("has(" + what + ")", 0, x.has(what));
        }
        Check.due("lock(0, 0)", -1, x.lock(0, 0));
        Check.due("note(0, 0)", -1, x.note(0, 0));
        Check.due("door(0)", -1, x.door(0));
        Check.due("player(0)", -1, x.player(0));
        Check.due("letter(0, 0, 0)", -1, x.letter(0, 0, 0));
        Check.due("states()", 1, x.states());
        Check.due("back(-1)", 0, x.back(-1));
        tapeIs(x, 0);
    }

    private static void fed() {
        // of each of the five numbers each of the four bytes, at each of twenty places
        for (int place = 0; place < 20; place++) {
            LockOrchestra x = new LockOrchestra();
            int[] five = new int[5];
            Arrays.fill(five, 0x20202020);
            five[place / 4] ^= (0x20 ^ 0xfe) << 24 - place % 4 * 8;
            Check.due("feed", 20, x.feed(five[0], five[1], five[2], five[3], five[4]));
            Check.due("hall()", -1, x.hall());
            Check.due("fault(1), the strange byte's place", place, x.fault(1));
        }
        // behind those that are there
        LockOrchestra x = new LockOrchestra();
        for (int k = 1; k <= 5; k++) {
            Check.due("feed", 20 * k, x.feed(0x20202020, 0x20202020, 0x20202020, 0x20202020, 0x20202020));
        }
        Check.due("feed", 120, x.feed(0x20202020, 0x202020ff, 0x20202020, 0x20202020, 0x20202020));
        x.hall();
        Check.due("fault(1)", 107, x.fault(1));
        Check.due("feed behind what was taken", 20, x.feed(0, 0, 0, 0, 0));
        Check.due("feed of what is below 0", 40, x.feed(-1, MIN, MAX, -2, 0));
        Check.due("status(0)", 0, x.status(0));
    }

    private static void fedTooMany() {
        LockOrchestra x = new LockOrchestra();
        for (int k = 1; k <= 80; k++) {
            Check.due("feed " + k, 20 * k, x.feed(0x20202020, 0x20202020, 0x20202020, 0x20202020, 0x20202020));
        }
        Check.due("feed on 1600", -1, x.feed(0, 0, 0, 0, 0));
        Check.due("status(0)", 1, x.status(0));
        tapeIs(x, 1600);
        for (int left = 1599; left >= 1581; left -= 6) {
            Check.due("end(" + left + ")", true, x.end(left));
            Check.due("feed on " + left, -1, x.feed(0, 0, 0, 0, 0));
            tapeIs(x, left);
        }
        Check.due("end(1580)", true, x.end(1580));
        Check.due("feed on 1580", 1600, x.feed(0x20202020, 0x20202020, 0x20202020, 0x20202020, 0x20202020));
        // what was refused left nothing there
        Check.due("hall() of 1600 blanks", 0, x.hall());
        // a text of 1600 bytes, to its last one
        Check.hallGood(1, "door d opens 1" + "+1".repeat(791) + "=1;");
        Check.hallGood(1, "rust 5;" + " ".repeat(1593));
        Check.hallFault(1, "rust 5;" + " ".repeat(1592) + "^x");
    }

    private static void ended() {
        LockOrchestra x = new LockOrchestra();
        x.feed(0x72757374, 0x20313030, 0x3b727573, 0x7420353b, 0x2020207f); // "rust 100;rust 5;" and a strange byte
        Check.due("end(20), all of it", true, x.end(20));
        tapeIs(x, 20);
        Check.due("end(19)", true, x.end(19));
        tapeIs(x, 19);
        Check.due("hall() without the strange byte", 2, x.hall());
        Check.due("has(4)", 5, x.has(4));
        x.feed(0x72757374, 0x20313030, 0x3b727573, 0x7420353b, 0x2020207f);
        Check.due("end(9)", true, x.end(9));
        Check.due("feed behind what is left", 29, x.feed(0x72757374, 0x2037303b, 0x20202020, 0x20202020, 0x20202020));
        Check.due("hall()", 2, x.hall());
        Check.due("has(4)", 70, x.has(4));
        Check.due("end(0) of nothing", true, x.end(0));
        x.feed(1, 2, 3, 4, 5);
        Check.due("end(0)", true, x.end(0));
        tapeIs(x, 0);
    }

    private static void endRefused() {
        LockOrchestra x = new LockOrchestra();
        Check.due("end(1) of nothing", false, x.end(1));
        x.feed(0x72757374, 0x20313030, 0x3b202020, 0x20202020, 0x20202020);
        int refused = 1;
        for (int n : new int[] {-1, -20, MIN, 21, 22, 1600, 1601, MAX}) {
            Check.due("end(" + n + ")", false, x.end(n));
            Check.due("status(0)", ++refused, x.status(0));
        }
        Check.due("end(20)", true, x.end(20));
        Check.due("status(0)", refused, x.status(0));
        Check.due("hall(), the tape stayed", 1, x.hall());
        Check.due("end(20) behind it", false, x.end(20));
    }

    private static void hallTakesTheTape() {
        LockOrchestra x = new LockOrchestra();
        Check.hallIs(x, HALL, 10);
        tapeIs(x, 0);
        Check.due("hall() of no bytes", 0, x.hall());
        Check.due("has(0)", 0, x.has(0));
        Check.hallFails(x, "rust", 1, 4);
        tapeIs(x, 0);
    }

    private static void hallWithAFault() {
        String[] faults = {"lock a wards 3 at 0;lock at", "lock x wards 6 at 0;", "lock x wards 2 at 0;note y turns z 1;",
            "lock z wards 5 at 4;door d opens ((((((((", "rust 1;".repeat(60) + "x"};
        for (int k = 0; k < 5; k++) {
            LockOrchestra x = busy();
            String before = picture(x);
            Check.tape(x, faults[k]);
            Check.due("hall()", -1, x.hall());
            Check.due("fault(0)", k + 1, x.fault(0));
            Check.due("status(1)", 1, x.status(1));
            same("with fault " + (k + 1), before, x);
            // twice behind each other, then a good act
            Check.tape(x, faults[k]);
            Check.due("hall()", -1, x.hall());
            Check.due("status(1)", 2, x.status(1));
            same("with fault " + (k + 1), before, x);
            Check.due("undo()", true, x.undo());
            Check.due("undo()", true, x.undo());
            Check.due("lock(0, 1)", 0, x.lock(0, 1));
        }
    }

    private static void hallWithoutAFault() {
        LockOrchestra x = busy();
        LockOrchestra y = Check.orchestra(HALL);
        String first = picture(y);
        Check.tape(x, HALL);
        Check.due("hall()", 10, x.hall());
        same("as at first", first, x);
        Check.due("undo()", false, x.undo());
        Check.due("status(4)", 1, x.status(4));
        // of a seed nothing changes, nor of what was drawn
        String two = "lock a wards 5 at 0;lock b wards 5 at 0;note n turns a 1;note m turns b 1;note o turns a 2 b 2;";
        x = Check.orchestra(two);
        y = Check.orchestra(two);
        x.seed(12345);
        y.seed(12345);
        x.evening(7);
        y.evening(7);
        Check.hallIs(x, two, 5);
        for (int k = 0; k < 7; k++) {
            Check.due("undo()", k == 0, y.undo());
        }
        x.evening(20);
        y.evening(20);
        Check.due("lock(0, 1)", y.lock(0, 1), x.lock(0, 1));
        Check.due("lock(1, 1)", y.lock(1, 1), x.lock(1, 1));
        fewerBehindMore();
        // refused ones stay counted
        x = new LockOrchestra();
        x.undo();
        x.end(7);
        Check.hallIs(x, two, 5);
        Check.due("status(4) stays", 1, x.status(4));
        Check.due("status(0) stays", 1, x.status(0));
    }

    /** A hall of fewer of each kind tells nothing of those of more that were ahead of it. */
    private static void fewerBehindMore() {
        String more = "lock a wards 5 at 4 jams 1;lock b wards 5 at 3 jams 2;lock c wards 5 at 2;lock d wards 5 at 1;note e turns a 4 b 3 c 2;"
            + "note f turns d 4;note g turns c 4;door h opens at 1=3;door i opens at 3=1;door j opens all;player k plays e f g;"
            + "player l plays g;rust 100;";
        String fewer = "lock a wards 2 at 0;note n turns a 1;door d opens at 0=0;player p plays n;";
        LockOrchestra x = new LockOrchestra();
        LockOrchestra only = Check.orchestra(fewer);
        String first = picture(only);
        for (int times = 0; times < 3; times++) {
            // twice, so that no room inside is left without it
            Check.hallIs(x, more, 13);
            Check.hallIs(x, more, 13);
            x.play(1);
            x.evening(3);
            Check.hallIs(x, fewer, 4);
            same("fewer behind more", first, x);
            others("hangs", x::hangs, 1);
            others("door", x::door, 1);
            others("player", x::player, 1);
            Check.due("note(0, 1)", 1, x.note(0, 1));
            Check.due("note(0, 11)", -1, x.note(0, 11));
            Check.due("total wards", 2, Check.ask(x, "total wards"));
            Check.due("total turns 1", 0, Check.ask(x, "total turns 1"));
            Check.due("most at 1", -1, Check.ask(x, "most at 1"));
            Check.due("image()", 5, x.image());
            Check.due("shortest(0, -1)", 1, x.shortest(0, -1));
        }
    }

    private static void latestFault() {
        LockOrchestra x = new LockOrchestra();
        faultIs(x, 0, -1);
        Check.tape(x, "lock l wards 9");
        x.hall();
        faultIs(x, 2, 13);
        x.play(9);
        Check.judge(x, 200);
        faultIs(x, 2, 13);
        Check.ask(x, "total 12345");
        faultIs(x, 1, 10);
        Check.ask(x, "total 1234");
        faultIs(x, 0, -1);
        Check.ask(x, "total (((((((");
        faultIs(x, 4, 12);
        Check.tape(x, "");
        x.hall();
        faultIs(x, 0, -1);
        Check.tape(x, "x");
        x.hall();
        faultIs(x, 1, 0);
        Check.ask(x, "often all");
        faultIs(x, 0, -1);
    }

    private static void faultIs(LockOrchestra x, int fault, int place) {
        Check.due("fault(0)", fault, x.fault(0));
        Check.due("fault(1)", place, x.fault(1));
        Check.due("fault(-1)", -1, x.fault(-1));
        Check.due("fault(2)", -1, x.fault(2));
    }

    // ---- what there is

    private static void hasOthers() {
        LockOrchestra x = busy();
        others("has", x::has, 2, 2, 3, 2, 0, 2, 0, 1, 1, 2, 2);
        LockOrchestra y = Check.orchestra("lock a wards 2 at 0 jams 1;lock b wards 2 at 0 jams 1;lock c wards 2 at 0 jams 1;"
            + "lock d wards 2 at 0 jams 1;note n turns a 1 b 1 c 1 d 1;door e opens all;door f opens all;door g opens all;"
            + "door h opens all;door i opens all;door j opens all;rust 100;");
        Check.due("has(6) of none", 0, y.has(6));
        y.play(0);
        others("has", y::has, 4, 1, 6, 0, 100, 1, 15, 63, 0, 0, 1);
    }

    private static void letters() {
        LockOrchestra x = Check.orchestra("lock abcdef wards 2 at 0;note uvwxyz turns abcdef 1;door z opens all;player am plays uvwxyz;");
        int[][] due = {{1, 2, 3, 4, 5, 6}, {21, 22, 23, 24, 25, 26}, {26, 0, 0, 0, 0, 0}, {1, 13, 0, 0, 0, 0}};
        for (int kind = 0; kind < 4; kind++) {
            for (int k = 0; k < 6; k++) {
                Check.due("letter(" + kind + ", 0, " + k + ")", due[kind][k], x.letter(kind, 0, k));
            }
        }
        // each letter from 1 to 26
        for (char letter = 'a'; letter <= 'z'; letter++) {
            Check.due("letter of " + letter, letter - 'a' + 1, Check.orchestra("door " + letter + " opens all;").letter(2, 0, 0));
        }
    }

    private static void noLetters() {
        // as many as there can be of each kind: the last is there, the one behind it is not
        String text = "lock a wards 2 at 0;lock b wards 2 at 0;lock c wards 2 at 0;lock d wards 2 at 0;note e turns a 1;"
            + "note f turns a 1;note g turns a 1;note h turns a 1;note i turns a 1;note j turns a 1;door k opens all;door l opens all;"
            + "door m opens all;door n opens all;door o opens all;door p opens all;player q plays e;player r plays e;player s plays e;"
            + "player t plays e;player u plays e;";
        LockOrchestra x = Check.orchestra(text);
        int[] many = {4, 6, 6, 5};
        int letter = 1;
        for (int kind = 0; kind < 4; kind++) {
            for (int which = 0; which < many[kind]; which++) {
                Check.due("letter(" + kind + ", " + which + ", 0)", letter++, x.letter(kind, which, 0));
                Check.due("letter(" + kind + ", " + which + ", 5)", 0, x.letter(kind, which, 5));
                Check.due("letter(" + kind + ", " + which + ", 6)", -1, x.letter(kind, which, 6));
                Check.due("letter(" + kind + ", " + which + ", -1)", -1, x.letter(kind, which, -1));
            }
            for (int which : new int[] {-1, many[kind], many[kind] + 1, MIN, MAX}) {
                Check.due("letter(" + kind + ", " + which + ", 0)", -1, x.letter(kind, which, 0));
            }
            for (int k : new int[] {MIN, MAX, 7, 32}) {
                Check.due("letter(" + kind + ", 0, " + k + ")", -1, x.letter(kind, 0, k));
            }
        }
        for (int kind : new int[] {-1, 4, 5, MIN, MAX}) {
            Check.due("letter(" + kind + ", 0, 0)", -1, x.letter(kind, 0, 0));
        }
    }

    private static void locks() {
        LockOrchestra x = Check.orchestra("lock a wards 3 at 1 jams 0;lock b wards 5 at 4;note n turns a 2 b 3;");
        int[][] first = {{3, 1, 1, 0, 0}, {5, 4, 4, -1, 0}};
        int[][] then = {{3, 0, 1, 0, 1}, {5, 2, 4, -1, 0}};
        for (int lock = 0; lock < 2; lock++) {
            int which = lock;
            others("lock " + lock + ", ", what -> x.lock(which, what), first[lock]);
        }
        x.play(0);
        for (int lock = 0; lock < 2; lock++) {
            int which = lock;
            others("lock " + lock + " turned, ", what -> x.lock(which, what), then[lock]);
        }
    }

    private static void noLocks() {
        String[] texts = {"", "lock a wards 2 at 0;", "lock a wards 2 at 0;lock b wards 2 at 0;",
            "lock a wards 2 at 0;lock b wards 2 at 0;lock c wards 2 at 0;",
            "lock a wards 2 at 0;lock b wards 2 at 0;lock c wards 2 at 0;lock d wards 2 at 0;"};
        for (int many = 0; many <= 4; many++) {
            LockOrchestra x = Check.orchestra(texts[many]);
            for (int what = 0; what < 5; what++) {
                for (int lock : new int[] {-1, many, many + 1, MIN, MAX}) {
                    Check.due("lock(" + lock + ", " + what + ") of " + many, -1, x.lock(lock, what));
                }
            }
            Check.due("lock(" + (many - 1) + ", 0) of " + many, many == 0 ? -1 : 2, x.lock(many - 1, 0));
        }
    }

    private static void notes() {
        LockOrchestra x = Check.orchestra(HALL);
        int[][] due = {{1, 0}, {2, 3}};
        int[] who = {3, 2};
        for (int note = 0; note < 2; note++) {
            Check.due("note(" + note + ", 0)", 1, x.note(note, 0));
            Check.due("note(" + note + ", 1)", who[note], x.note(note, 1));
            Check.due("note(" + note + ", 10)", due[note][0], x.note(note, 10));
            Check.due("note(" + note + ", 11)", due[note][1], x.note(note, 11));
            for (int what : new int[] {-1, 2, 3, 8, 9, 12, 13, 14, 20, MIN, MIN + 10, MAX, -10}) {
                Check.due("note(" + note + ", " + what + ")", -1, x.note(note, what));
            }
        }
        LockOrchestra y = Check.orchestra("lock a wards 2 at 0;lock b wards 2 at 0;lock c wards 2 at 0;lock d wards 2 at 0;note n turns d 1;"
            + "player p plays n;player q plays n;player r plays n;player s plays n;player t plays n;");
        Check.due("note(0, 13) of four locks", 1, y.note(0, 13));
        Check.due("note(0, 12)", 0, y.note(0, 12));
        Check.due("note(0, 14)", -1, y.note(0, 14));
        Check.due("note(0, 1), all five", 31, y.note(0, 1));
        Check.due("note(0, 1), nobody", 0, Check.orchestra("lock a wards 2 at 0;note n turns a 1;").note(0, 1));
        // whether it can be played follows what is jammed
        x.play(1);
        Check.due("note(0, 0)", 0, x.note(0, 0));
        x.oil(0);
        Check.due("note(0, 0)", 1, x.note(0, 0));
    }

    private static void noNotes() {
        LockOrchestra x = Check.orchestra(HALL);
        LockOrchestra six = Check.orchestra("lock l wards 2 at 0;note a turns l 1;note b turns l 1;note c turns l 1;note d turns l 1;"
            + "note e turns l 1;note f turns l 4;");
        for (int what : new int[] {0, 1, 10, 11}) {
            for (int note : new int[] {-1, 2, 3, 5, 6, 7, MIN, MAX}) {
                Check.due("note(" + note + ", " + what + ")", -1, x.note(note, what));
            }
            Check.due("note(6, " + what + ") of six: a rest is none", -1, six.note(6, what));
            Check.due("new note(0, " + what + ")", -1, new LockOrchestra().note(0, what));
        }
        Check.due("note(5, 10) of six", 4, six.note(5, 10));
        Check.due("note(5, 0) of six", 1, six.note(5, 0));
    }

    private static void doors() {
        LockOrchestra x = Check.orchestra(HALL);
        others("door", x::door, 0, 0, 0);
        x.play(0);
        others("door", x::door, 1, 0, 0);
        LockOrchestra six = Check.orchestra("door a opens all;door b opens not all;door c opens all;door d opens not all;door e opens all;"
            + "door f opens all;");
        others("door", six::door, 1, 0, 1, 0, 1, 1);
        others("door", new LockOrchestra()::door);
    }

    private static void players() {
        others("player", Check.orchestra(HALL)::player, 1, 3);
        LockOrchestra five = Check.orchestra("lock l wards 2 at 0;note a turns l 1;note b turns l 1;note c turns l 1;note d turns l 1;"
            + "note e turns l 1;note f turns l 1;player g plays a;player h plays b a;player i plays f;player j plays a b c d e f;"
            + "player k plays e;");
        others("player", five::player, 1, 3, 32, 63, 16);
        others("player", new LockOrchestra()::player);
    }

    private static void keptInOrder() {
        LockOrchestra x = Check.orchestra(HALL);
        x.play(0);
        x.play(0);
        x.oil(0);
        x.play(6);
        x.play(0);
        x.play(1);
        // d opened, d shut and f opened, f shut by oil, then a goes to 0, m turns a to 2 and bb to 2
        int[][] due = {{1, 0, 1}, {2, 0, 0}, {2, 2, 1}, {2, 2, 0}, {5, 1, 1}, {5, 2, 1}};
        Check.due("has(8)", due.length, x.has(8));
        for (int k = 0; k < due.length; k++) {
            int row = k;
            others("kept " + k + ", ", what -> x.kept(row, what), due[k]);
        }
    }

    private static void noKept() {
        LockOrchestra x = Check.orchestra(HALL);
        for (int what = 0; what < 3; what++) {
            int which = what;
            others("kept of none", k -> x.kept(k, which));
        }
        x.play(0);
        others("kept of one", k -> x.kept(k, 0), 1);
        Check.due("kept(0, 3)", -1, x.kept(0, 3));
        Check.due("kept(0, -1)", -1, x.kept(0, -1));
        x.undo();
        others("kept, undone", k -> x.kept(k, 0));
    }

    // ---- pieces

    private static void judge() {
        LockOrchestra x = Check.orchestra(HALL);
        Check.due("judge of nothing", 0, Check.judge(x));
        Check.due("judge n", 1, Check.judge(x, 0));
        Check.due("judge n n: the second jams a", 2, Check.judge(x, 0, 0));
        Check.due("judge n n n", 2, Check.judge(x, 0, 0, 0));
        Check.due("judge n n n rest: what stands behind it counts none", 2, Check.judge(x, 0, 0, 0, 6));
        Check.due("judge n n rest rest", 4, Check.judge(x, 0, 0, 6, 6));
        tapeIs(x, 0);
        Check.due("has(5)", 0, x.has(5));
        Check.due("has(10)", 0, x.has(10));
        x.play(1);
        Check.due("judge n, jammed", 0, Check.judge(x, 0));
        Check.due("judge of 20", 20, Check.judge(x, rests(20)));
    }

    private static void judgeRefused() {
        LockOrchestra x = Check.orchestra(HALL);
        int refused = 0;
        for (int octet : new int[] {2, 3, 4, 5, 7, 8, 128, 255}) {
            Check.due("judge " + octet, -1, Check.judge(x, octet));
            Check.due("judge rest " + octet, -1, Check.judge(x, 6, octet));
            tapeIs(x, 0);
            refused += 2;
            Check.due("status(1)", refused, x.status(1));
        }
        // also where it stands behind what can't be played
        Check.due("judge n n n 7", -1, Check.judge(x, 0, 0, 0, 7));
        Check.due("judge of 21", -1, Check.judge(x, rests(21)));
        Check.due("status(1)", refused + 2, x.status(1));
        Check.due("judge 0 of a new one", -1, Check.judge(new LockOrchestra(), 0));
    }

    private static void judged() {
        LockOrchestra x = Check.orchestra(HALL);
        Check.judge(x, 0);
        others("judged", x::judged, 1, 0, 1);
        Check.judge(x, 0, 0);
        others("judged", x::judged, 4, 1, 2);
        Check.judge(x, 0, 0, 0, 6, 6);
        others("judged, up to what can be", x::judged, 4, 1, 2);
        Check.judge(x, 6);
        others("judged", x::judged, 0, 0, 0);
        Check.judge(x, 1);
        others("judged, two at once", x::judged, 6, 1, 2);
        // what is open ahead of it was not opened in it; acts behind it change nothing
        x.play(0);
        others("judged", x::judged, 6, 1, 2);
        Check.judge(x);
        others("judged of no length", x::judged, 1, 0, 0);
        // refused, it is as it was
        Check.judge(x, 9);
        others("judged", x::judged, 1, 0, 0);
        // how often, not how many: one door opened ten times
        LockOrchestra y = Check.orchestra("lock a wards 2 at 0;note n turns a 1;door d opens at 0=1;");
        Check.judge(y, new int[20]);
        others("judged", y::judged, 0, 0, 10);
        Check.judge(y, new int[19]);
        others("judged", y::judged, 1, 0, 10);
    }

    private static void nothingJudged() {
        LockOrchestra x = new LockOrchestra();
        others("judged ahead of any", x::judged);
        Check.hallIs(x, HALL, 10);
        others("judged ahead of any", x::judged);
        Check.judge(x, 9);
        others("judged, the only one refused", x::judged);
        Check.judge(x, 0);
        others("judged", x::judged, 1, 0, 1);
        Check.hallFails(x, "x", 1, 0);
        others("judged of this hall", x::judged, 1, 0, 1);
        Check.hallIs(x, HALL, 10);
        others("judged of a new hall", x::judged);
    }

    private static void share() {
        LockOrchestra x = Check.orchestra(HALL);
        Check.due("share of nothing", 0, Check.share(x));
        Check.due("share n", 1, Check.share(x, 0));
        Check.due("share m", 2, Check.share(x, 1));
        Check.due("share m m: it can't be", -1, Check.share(x, 1, 1));
        Check.due("share n n n", 3, Check.share(x, 0, 0, 0));
        tapeIs(x, 0);
        Check.due("status(1): what can't be is not refused", 0, x.status(1));
        int refused = 0;
        for (int octet : new int[] {2, 5, 7, 255}) {
            Check.due("share " + octet, -1, Check.share(x, octet));
            Check.due("share m m " + octet, -1, Check.share(x, 1, 1, octet));
            tapeIs(x, 0);
            refused += 2;
            Check.due("status(1)", refused, x.status(1));
        }
        Check.due("share of 20", 0, Check.share(x, rests(20)));
        Check.due("status(1)", refused, x.status(1));
        Check.due("share of 21", -1, Check.share(x, rests(21)));
        Check.due("status(1)", refused + 1, x.status(1));
        // whether it can be played is not asked
        x.play(1);
        Check.due("share n rest m, jammed", 2, Check.share(x, 0, 6, 1));
    }

    private static void slip() {
        LockOrchestra x = Check.orchestra(HALL);
        Check.due("slip(0) of nothing", 0, Check.slip(x, 0));
        Check.due("slip(1) of rest: n", 1, Check.slip(x, 1, 6));
        Check.due("slip(6) of rest: m", 1, Check.slip(x, 6, 6));
        Check.due("slip(7) of rest", 0, Check.slip(x, 7, 6));
        Check.due("slip(0) of n: a rest", 1, Check.slip(x, 0, 0));
        tapeIs(x, 0);
        Check.due("status(1)", 0, x.status(1));
        Check.due("has(5)", 0, x.has(5));
        Check.due("slip(1) of twenty rests", 20, Check.slip(x, 1, rests(20)));
    }

    private static void slipRefused() {
        LockOrchestra x = Check.orchestra(HALL);
        int refused = 0;
        for (int doors : new int[] {-1, 8, 9, 16, 255, MIN, MAX}) {
            Check.due("slip(" + doors + ")", -1, Check.slip(x, doors, 6));
            tapeIs(x, 0);
            Check.due("status(1)", ++refused, x.status(1));
        }
        Check.due("slip(7)", 0, Check.slip(x, 7, 6));
        for (int octet : new int[] {2, 5, 7, 255}) {
            Check.due("slip of " + octet, -1, Check.slip(x, 0, 6, octet));
            tapeIs(x, 0);
            Check.due("status(1)", ++refused, x.status(1));
        }
        Check.due("slip of both wrong", -1, Check.slip(x, 8, 7));
        Check.due("status(1): once for one call", ++refused, x.status(1));
        Check.due("slip of 21", -1, Check.slip(x, 0, rests(21)));
        Check.due("status(1)", ++refused, x.status(1));
        Check.due("slip(1) of no doors", -1, Check.slip(new LockOrchestra(), 1));
        Check.due("slip(0) of no doors", 0, Check.slip(new LockOrchestra(), 0));
    }

    private static void slipped() {
        LockOrchestra x = Check.orchestra(HALL);
        Check.slip(x, 1, 6, 6);
        others("slipped", x::slipped, 0, 0);
        Check.slip(x, 6, 6, 6);
        others("slipped", x::slipped, 0, 1);
        Check.slip(x, 8, 6);
        Check.slip(x, 0, 9);
        others("slipped, those refused don't count", x::slipped, 0, 1);
        Check.slip(x, 4, 0, 6);
        others("slipped: n n", x::slipped, 1, 0);
        Check.slip(x, 0, 0);
        others("slipped: a rest", x::slipped, 0, 6);
        x.play(0);
        others("slipped stays", x::slipped, 0, 6);
        Check.slip(x, 7, 6);
        others("slipped of none such", x::slipped);
    }

    private static void nothingSlipped() {
        LockOrchestra x = new LockOrchestra();
        others("slipped ahead of any", x::slipped);
        Check.hallIs(x, HALL, 10);
        Check.slip(x, 8, 6);
        others("slipped, the only one refused", x::slipped);
        Check.slip(x, 1, 6);
        others("slipped", x::slipped, 0, 0);
        Check.hallFails(x, "x", 1, 0);
        others("slipped of this hall", x::slipped, 0, 0);
        Check.hallIs(x, HALL, 10);
        others("slipped of a new hall", x::slipped);
    }

    // ---- searches

    private static void shortest() {
        LockOrchestra x = Check.orchestra(HALL);
        Check.due("shortest(0, -1)", 0, x.shortest(0, -1));
        Check.due("shortest(1, -1)", 1, x.shortest(1, -1));
        Check.due("shortest(1, 0)", 0, x.shortest(1, 0));
        Check.due("shortest(1, 1)", -1, x.shortest(1, 1));
        Check.due("shortest(4, -1)", 2, x.shortest(4, -1));
        for (int k : new int[] {-2, 2, 3, MIN, MAX}) {
            Check.due("shortest(4, " + k + ")", -1, x.shortest(4, k));
        }
        Check.due("shortest(6, -1)", 1, x.shortest(6, -1));
        Check.due("shortest(6, 0)", 1, x.shortest(6, 0));
        // n m n: m turns a back from 1 to 0
        int[] due = {0, 1, 0};
        Check.due("shortest(3, -1)", 3, x.shortest(3, -1));
        others("shortest to 3, ", k -> k == -1 ? -1 : x.shortest(3, k), due);
        for (int k : new int[] {-2, 0, 1, MIN, MAX}) {
            Check.due("shortest(0, " + k + ") of no length", -1, x.shortest(0, k));
        }
    }

    private static void noShortest() {
        LockOrchestra x = Check.orchestra(HALL);
        for (int k : new int[] {-2, -1, 0, 1}) {
            for (int doors : new int[] {5, 7, 8, 9, 64, -1, -8, MIN, MAX}) {
                Check.due("shortest(" + doors + ", " + k + ")", -1, x.shortest(doors, k));
            }
            Check.due("shortest(1, " + k + ") of no doors", -1, new LockOrchestra().shortest(1, k));
        }
        // of six doors all 63 are some
        LockOrchestra six = Check.orchestra("door a opens all;door b opens all;door c opens all;door d opens all;door e opens all;"
            + "door f opens all;");
        Check.due("shortest(63, -1)", 0, six.shortest(63, -1));
        Check.due("shortest(64, -1)", -1, six.shortest(64, -1));
        Check.due("shortest(127, -1)", -1, six.shortest(127, -1));
        Check.due("status(1): none is refused", 0, six.status(1));
    }

    private static void back() {
        LockOrchestra x = Check.orchestra("lock a wards 4 at 1;note n turns a 1;");
        for (int turned = 0; turned < 4; turned++) {
            int length = (4 - turned) % 4;
            Check.due("back(-1)", length, x.back(-1));
            for (int k = 0; k < 5; k++) {
                Check.due("back(" + k + ")", k < length ? 0 : -1, x.back(k));
            }
            for (int k : new int[] {-2, MIN, MAX}) {
                Check.due("back(" + k + ")", -1, x.back(k));
            }
            x.play(0);
        }
        LockOrchestra y = Check.orchestra(HALL);
        y.play(1);
        for (int k = -2; k < 3; k++) {
            Check.due("back(" + k + ") of none", -1, y.back(k));
        }
    }

    private static void states() {
        LockOrchestra x = Check.orchestra(HALL);
        // a is at 0 or 1 or jammed at 2, and bb anywhere: m turns a from 1 to 0 and jams it from 0 on
        Check.due("states()", 15, x.states());
        Check.due("states() again", x.states(), x.states());
        Check.due("has(5)", 0, x.has(5));
        x.play(1);
        Check.due("states(), all notes jammed", 1, x.states());
    }

    private static void forbid() {
        LockOrchestra x = Check.orchestra(HALL);
        Check.due("forbid(1)", 1, x.forbid(1));
        Check.due("forbid(0): all of none are open now", -1, x.forbid(0));
        for (int doors : new int[] {-1, 8, 9, 64, MIN, MAX}) {
            Check.due("forbid(" + doors + ")", -1, x.forbid(doors));
        }
        Check.due("forbid(7): never at once", 0, x.forbid(7));
        x.play(0);
        Check.due("forbid(1), open now", -1, x.forbid(1));
        Check.due("forbid(5): not all open now", 0, x.forbid(5));
        Check.due("status(1)", 0, x.status(1));
        LockOrchestra six = Check.orchestra("lock l wards 2 at 0;note n turns l 1;door a opens at 0=1;door b opens at 0=1;"
            + "door c opens at 0=1;door d opens at 0=1;door e opens at 0=1;door f opens at 0=1;");
        Check.due("forbid(63)", 1, six.forbid(63));
        Check.due("forbid(64)", -1, six.forbid(64));
        six.play(0);
        Check.due("forbid(63), all open now", -1, six.forbid(63));
    }

    // ---- what is heard

    private static void hear() {
        LockOrchestra x = Check.orchestra(HALL);
        for (int rows = 1; rows <= 20; rows++) {
            int[] told = new int[2 * rows];
            for (int k = 0; k < rows; k++) {
                told[2 * k] = 6;
            }
            Check.due("hear of " + rows, rows, Check.hear(x, told));
            Check.due("has(9)", rows, x.has(9));
        }
        tapeIs(x, 0);
        Check.due("hear of the last note and all doors", 1, Check.hear(x, 1, 7));
        Check.due("has(9)", 1, x.has(9));
        Check.due("status(1)", 0, x.status(1));
        Check.due("has(10): it is no act", 0, x.has(10));
    }

    private static void hearRefused() {
        int[][] wrong = {{}, {6}, {6, 0, 6}, {2, 0}, {5, 0}, {7, 0}, {255, 0}, {6, 8}, {6, 255}, {6, 0, 6, 8}, {6, 0, 2, 0}, new int[42],
            new int[41], new int[44]};
        LockOrchestra x = busy();
        String before = picture(x);
        int refused = 0;
        for (int[] rows : wrong) {
            Check.due("hear of " + Arrays.toString(rows), -1, Check.hear(x, rows));
            tapeIs(x, 0);
            Check.due("status(1)", ++refused, x.status(1));
        }
        same("what was heard was none", before, x);
        Check.due("hear of 20", 20, Check.hear(x, new int[40]));
        // without doors no bit is one
        Check.due("hear rest of no doors", 1, Check.hear(new LockOrchestra(), 6, 0));
        Check.due("hear rest, bit 1, of no doors", -1, Check.hear(new LockOrchestra(), 6, 1));
    }

    private static void starts() {
        LockOrchestra x = Check.orchestra(HALL);
        Check.hear(x, 6, 0);
        // of 15 ways: a not at 1, bb not at 2
        others("starts", x::starts, 8, 0, 14);
        Check.hear(x, 6, 3);
        others("starts of one", x::starts, 1, 7, 7);
        Check.hear(x, 6, 4);
        others("starts of none", x::starts, 0, -1, -1);
        x.play(0);
        Check.hear(x, 6, 3);
        others("starts, whatever was played", x::starts, 1, 7, 7);
    }

    private static void noStarts() {
        LockOrchestra x = Check.orchestra(HALL);
        others("starts ahead of any", x::starts);
        Check.hear(x, 9, 0);
        others("starts, all refused", x::starts);
        Check.hear(x, 6, 3);
        others("starts", x::starts, 1, 7, 7);
        Check.hallFails(x, "x", 1, 0);
        others("starts of this hall", x::starts, 1, 7, 7);
        Check.hallIs(x, HALL, 10);
        others("starts of a new hall", x::starts);
    }

    private static void hangs() {
        LockOrchestra x = Check.orchestra("lock a wards 3 at 0;lock b wards 3 at 0;lock c wards 2 at 0 jams 1;lock d wards 5 at 0;"
            + "note n turns c 1;door e opens at 0=2;door f opens at 0=1 and at 1=1;door g opens at 0=1 or at 3=4;"
            + "door h opens jams>0;door i opens all;door j opens at 0+at 1+at 2+at 3=0;");
        others("hangs", x::hangs, 1, 0, 9, 0, 0, 15);
        // turned to where it jams it is not jammed by that: h does not hang on c
        x.play(0);
        others("hangs, c at 1 and jammed", x::hangs, 1, 0, 9, 0, 0, 4);
        // from now on: f hangs on b when a stands at 1
        LockOrchestra y = Check.orchestra("lock a wards 3 at 1;lock b wards 3 at 0;door f opens at 0=1 and at 1=1;"
            + "door g opens at 0=1 or at 1=1;door h opens at 0=at 1;");
        others("hangs", y::hangs, 2, 1, 3);
        // also what is open would be shut, by one ward or by the most
        LockOrchestra z = Check.orchestra("lock a wards 5 at 0;door b opens at 0<4;door c opens not at 0=1;door d opens at 0=4;");
        others("hangs", z::hangs, 1, 1, 1);
        Check.due("nothing turns by that", 0, z.lock(0, 1));
    }

    private static void noHangs() {
        others("hangs of no doors", new LockOrchestra()::hangs);
        LockOrchestra x = Check.orchestra("door a opens all;door b opens all;door c opens all;door d opens all;door e opens all;"
            + "door f opens all;");
        others("hangs of six doors, no locks", x::hangs, 0, 0, 0, 0, 0, 0);
    }

    // ---- acts

    private static void play() {
        LockOrchestra x = Check.orchestra(HALL);
        Check.due("play(0)", 1, x.play(0));
        Check.due("play(6)", 1, x.play(6));
        int refused = 0;
        for (int note : new int[] {-1, 2, 3, 4, 5, 7, 8, 255, MIN, MAX}) {
            Check.due("play(" + note + ")", -1, x.play(note));
            Check.due("status(2)", ++refused, x.status(2));
        }
        Check.due("has(5)", 2, x.has(5));
        Check.due("has(10)", 2, x.has(10));
        Check.due("play(0)", 4, x.play(0));
        String before = picture(x);
        Check.due("play(0), jammed", -1, x.play(0));
        Check.due("play(1), jammed", -1, x.play(1));
        Check.due("status(2)", refused + 2, x.status(2));
        same("what can't be played", before, x);
        Check.due("play(6), jammed", 4, x.play(6));
        LockOrchestra six = Check.orchestra("lock l wards 2 at 0;note a turns l 1;note b turns l 1;note c turns l 1;note d turns l 1;"
            + "note e turns l 1;note f turns l 1;door g opens at 0=1;");
        Check.due("play(5) of six", 1, six.play(5));
        Check.due("play(6) of six", 1, six.play(6));
        Check.due("play(7) of six", -1, six.play(7));
    }

    private static void piece() {
        LockOrchestra x = Check.orchestra(HALL);
        Check.due("piece of no length", -1, Check.piece(x));
        Check.due("status(2)", 1, x.status(2));
        Check.due("has(10)", 0, x.has(10));
        Check.due("piece of one", 1, Check.piece(x, 0));
        Check.due("has(10)", 1, x.has(10));
        Check.due("piece of twenty", 20, Check.piece(x, rests(20)));
        Check.due("has(5)", 21, x.has(5));
        String before = picture(x);
        int refused = 1;
        for (int octet : new int[] {2, 5, 7, 255}) {
            Check.due("piece of " + octet, -1, Check.piece(x, octet));
            Check.due("piece of n " + octet, -1, Check.piece(x, 0, octet));
            tapeIs(x, 0);
            refused += 2;
            Check.due("status(2)", refused, x.status(2));
        }
        Check.due("piece of 21", -1, Check.piece(x, rests(21)));
        Check.due("status(2)", refused + 1, x.status(2));
        same("a piece that is none", before, x);
        Check.due("piece n n n rest", 1, Check.piece(x, 0, 0, 0, 6));
        Check.due("has(5)", 22, x.has(5));
        Check.due("piece of which none can be", 0, Check.piece(x, 0, 6));
        Check.due("has(5)", 22, x.has(5));
        Check.due("status(2)", refused + 1, x.status(2));
        Check.due("status(1)", 0, x.status(1));
    }

    private static void oil() {
        LockOrchestra x = Check.orchestra(HALL);
        int refused = 0;
        for (int lock : new int[] {0, 1, 2, 3, 4, 31, 32, -1, MIN, MAX}) {
            Check.due("oil(" + lock + ")", false, x.oil(lock));
            Check.due("status(3)", ++refused, x.status(3));
        }
        Check.due("has(10)", 0, x.has(10));
        x.play(1);
        for (int lock : new int[] {1, 2, 32, -1, MIN, MAX}) {
            Check.due("oil(" + lock + ")", false, x.oil(lock));
            Check.due("status(3)", ++refused, x.status(3));
        }
        Check.due("has(10)", 1, x.has(10));
        Check.due("oil(0)", true, x.oil(0));
        Check.due("has(10)", 2, x.has(10));
        Check.due("oil(0) again", false, x.oil(0));
        Check.due("status(3)", ++refused, x.status(3));
        Check.due("oil(0) of no locks", false, new LockOrchestra().oil(0));
    }

    private static void evening() {
        LockOrchestra x = Check.orchestra("lock a wards 5 at 0;note n turns a 1;");
        int played = 0;
        for (int n : new int[] {1, 2, 49, 50}) {
            Check.due("evening(" + n + ")", n, x.evening(n));
            played += n;
            Check.due("has(5)", played, x.has(5));
            Check.due("lock(0, 1)", played % 5, x.lock(0, 1));
        }
        Check.due("has(10)", 4, x.has(10));
        Check.due("undo()", true, x.undo());
        Check.due("has(5), one act", played - 50, x.has(5));
        // notes alone count in the answer, rests count as played
        LockOrchestra y = Check.orchestra("lock a wards 5 at 0 jams 3;note n turns a 1;");
        Check.due("evening(50)", 3, y.evening(50));
        Check.due("has(5)", 50, y.has(5));
        Check.due("evening(50), jammed", 0, y.evening(50));
        Check.due("has(5)", 100, y.has(5));
    }

    private static void eveningRefused() {
        LockOrchestra x = Check.orchestra("lock a wards 5 at 0;lock b wards 5 at 0;note n turns a 1;note m turns b 1;");
        LockOrchestra y = Check.orchestra("lock a wards 5 at 0;lock b wards 5 at 0;note n turns a 1;note m turns b 1;");
        int refused = 0;
        for (int n : new int[] {0, -1, -50, 51, 52, 100, MIN, MAX}) {
            Check.due("evening(" + n + ")", -1, x.evening(n));
            Check.due("status(3)", ++refused, x.status(3));
        }
        Check.due("has(5)", 0, x.has(5));
        Check.due("has(10)", 0, x.has(10));
        // nothing was drawn by them
        x.evening(21);
        y.evening(21);
        Check.due("lock(0, 1)", y.lock(0, 1), x.lock(0, 1));
        for (int n : new int[] {1, 50}) {
            LockOrchestra none = Check.orchestra("lock a wards 5 at 0;rust 100;");
            Check.due("evening(" + n + ") of no notes", -1, none.evening(n));
            Check.due("status(3)", 1, none.status(3));
            Check.due("has(10)", 0, none.has(10));
            Check.due("has(6)", 0, none.has(6));
        }
    }

    private static void undo() {
        // an act of each kind: behind it all that can be asked is as ahead of it
        LockOrchestra x = busy();
        for (int act = 0; act < 5; act++) {
            String before = picture(x);
            switch (act) {
                case 0:
                    x.play(1);
                    break;
                case 1:
                    Check.piece(x, 0, 6, 0);
                    break;
                case 2:
                    x.evening(50);
                    break;
                case 3:
                    x.play(6);
                    break;
                default:
                    Check.piece(x, rests(20));
                    break;
            }
            Check.due("has(10)", 3, x.has(10));
            Check.due("undo()", true, x.undo());
            same("act " + act + " undone", before, x);
        }
        x.play(0);
        String before = picture(x);
        Check.due("oil(0)", true, x.oil(0));
        Check.due("undo()", true, x.undo());
        same("oil undone", before, x);
        // the seed stays where the undone evening left it
        String two = "lock a wards 5 at 0;lock b wards 5 at 0;note n turns a 1;note m turns b 1;note o turns a 2 b 2;";
        LockOrchestra y = Check.orchestra(two);
        LockOrchestra z = Check.orchestra(two);
        y.evening(9);
        y.undo();
        y.evening(30);
        z.evening(9);
        Check.on(z, withLast(0, 0, 0, 0, 0, 0));
        z.evening(30);
        Check.due("lock(0, 1)", z.lock(0, 1), y.lock(0, 1));
        Check.due("lock(1, 1)", z.lock(1, 1), y.lock(1, 1));
        LockOrchestra again = Check.orchestra(two);
        again.evening(30);
        Check.due("it differs from what the seed gave at first", true,
            again.lock(0, 1) != y.lock(0, 1) || again.lock(1, 1) != y.lock(1, 1));
    }

    private static void undoRefused() {
        LockOrchestra x = new LockOrchestra();
        Check.due("undo() of nothing", false, x.undo());
        Check.due("status(4)", 1, x.status(4));
        x.play(6);
        Check.due("undo()", true, x.undo());
        Check.due("undo() of no more", false, x.undo());
        Check.due("status(4)", 2, x.status(4));
        for (int k = 0; k < 21; k++) {
            x.play(6);
        }
        for (int k = 0; k < 20; k++) {
            Check.due("undo() " + k, true, x.undo());
        }
        Check.due("the 21st undo()", false, x.undo());
        Check.due("status(4)", 3, x.status(4));
        Check.due("has(5)", 1, x.has(5));
    }

    private static void seed() {
        String two = "lock a wards 5 at 0;lock b wards 5 at 0;note n turns a 1;note m turns b 1;note o turns a 2 b 2;";
        LockOrchestra x = Check.orchestra(two);
        LockOrchestra one = Check.orchestra(two);
        int refused = 0;
        for (int seed : new int[] {-1, -2, MIN, MIN + 1}) {
            Check.due("seed(" + seed + ")", false, x.seed(seed));
            Check.due("status(5)", ++refused, x.status(5));
        }
        Check.due("seed(1)", true, one.seed(1));
        alike(x, one, true);
        for (int seed : new int[] {0, 1, MAX - 1, MAX}) {
            Check.due("seed(" + seed + ")", true, x.seed(seed));
        }
        Check.due("status(5)", refused, x.status(5));
        Check.due("has(10): it is no act", 1, x.has(10));
        // 0 is a seed of its own: not the one at first
        x.seed(0);
        one.seed(1);
        alike(x, one, false);
    }

    /** Whether an evening from here on turns both alike. */
    private static void alike(LockOrchestra x, LockOrchestra y, boolean due) {
        Check.on(x, withLast(0, 0, 0, 0, 0, 0));
        Check.on(y, withLast(0, 0, 0, 0, 0, 0));
        x.evening(13);
        y.evening(13);
        Check.due("whether they are alike", due, x.lock(0, 1) == y.lock(0, 1) && x.lock(1, 1) == y.lock(1, 1));
    }

    // ---- questions, images, refusals

    private static void ask() {
        LockOrchestra x = busy();
        String before = picture(x);
        Check.due("first ward=9", -1, Check.ask(x, "first ward=9"));
        Check.due("last ward=9", -1, Check.ask(x, "last ward=9"));
        Check.due("least 0-1: -1 may be a number", -1, Check.ask(x, "least 0-1"));
        Check.due("least of all numbers", -1000000, Check.ask(x, "least 0-9999*9999"));
        Check.due("with fault 1", LockOrchestra.NOTHING, Check.ask(x, "first"));
        Check.due("with fault 4", LockOrchestra.NOTHING, Check.ask(x, "first [[[[[[[all]]]]]]]"));
        tapeIs(x, 0);
        Check.due("of no bytes", LockOrchestra.NOTHING, x.ask());
        Check.due("first all", 0, Check.ask(x, "first all"));
        tapeIs(x, 0);
        same("asked", before, x);
        for (int what = 1; what <= 5; what++) {
            Check.due("status(" + what + "): nothing is refused", 0, x.status(what));
        }
        // a text of 1600 bytes, and the byte behind what can be
        String longest = "total 1" + "+1".repeat(796) + " ";
        Check.due("a question of 1600 bytes", 2 * 797, Check.ask(x, longest));
        Check.due("with a fault at the last", LockOrchestra.NOTHING, Check.ask(x, longest.substring(0, 1599) + "+"));
        Check.due("fault(1)", 1600, x.fault(1));
    }

    private static void image() {
        String[] locks = {"", "lock a wards 2 at 0;", "lock b wards 2 at 0;", "lock c wards 2 at 0;", "lock d wards 2 at 0;"};
        StringBuilder text = new StringBuilder();
        for (int many = 0; many <= 4; many++) {
            text.append(locks[many]);
            LockOrchestra x = Check.orchestra(text.toString());
            Check.due("image() of " + many, 3 + 2 * many, x.image());
            Check.due("image() again", 3 + 2 * many, x.image());
            Check.due("has(10)", 0, x.has(10));
        }
    }

    private static void octet() {
        LockOrchestra x = Check.orchestra(HALL);
        others("octet ahead of any", x::octet);
        x.image();
        others("octet", x::octet, withLast(0, 0, 0, 0, 4, 0));
        x.play(1);
        others("octet of the latest", x::octet, withLast(0, 0, 0, 0, 4, 0));
        x.image();
        others("octet", x::octet, withLast(0, 1, 2, 1, 2, 0));
        // a shorter one leaves nothing of a longer one
        Check.hallIs(x, "", 0);
        x.image();
        others("octet of no locks", x::octet, withLast(0, 0));
        Check.hallIs(x, "lock a wards 5 at 1;lock b wards 5 at 2;lock c wards 5 at 3;lock d wards 5 at 4;", 4);
        x.image();
        others("octet of four locks", x::octet, withLast(0, 0, 1, 0, 2, 0, 3, 0, 4, 0));
    }

    private static void on() {
        LockOrchestra x = busy();
        Check.due("on()", true, Check.on(x, withLast(1, 2, 2, 1, 0, 1)));
        tapeIs(x, 0);
        others("has", x::has, 2, 2, 3, 2, 0, 258, 3, 4, 0, 2, 0);
        Check.due("lock(0, 1)", 2, x.lock(0, 1));
        Check.due("lock(1, 1)", 0, x.lock(1, 1));
        Check.due("lock(1, 2)", 4, x.lock(1, 2));
        Check.due("undo()", false, x.undo());
        Check.due("kept(0, 0)", -1, x.kept(0, 0));
        Check.due("back(-1)", -1, x.back(-1));
        // each state that there is; jammed anywhere, not jammed where it jams
        for (int a = 0; a < 3; a++) {
            for (int b = 0; b < 5; b++) {
                for (int jams = 0; jams < 4; jams++) {
                    LockOrchestra y = Check.orchestra(HALL);
                    Check.due("on()", true, Check.on(y, withLast(0, 0, a, jams & 1, b, jams >> 1)));
                    Check.due("lock(0, 1)", a, y.lock(0, 1));
                    Check.due("lock(1, 1)", b, y.lock(1, 1));
                    Check.due("has(6)", jams, y.has(6));
                    y.image();
                    others("octet", y::octet, withLast(0, 0, a, jams & 1, b, jams >> 1));
                }
            }
        }
        // acts go on from there
        LockOrchestra z = Check.orchestra(HALL);
        Check.on(z, withLast(39, 14, 0, 0, 4, 0));
        z.play(0);
        Check.due("kept(0, 0)", 9999, z.kept(0, 0));
        Check.due("undo()", true, z.undo());
        Check.due("has(5)", 9998, z.has(5));
        Check.due("undo()", false, z.undo());
        Check.due("on() of 9999", true, Check.on(z, withLast(39, 15, 0, 0, 4, 0)));
        Check.due("has(5)", 9999, z.has(5));
    }

    private static void onRefused() {
        LockOrchestra x = busy();
        String before = picture(x);
        int refused = 0;
        int[][] wrong = {{}, {0}, {0, 0}, withLast(), withLast(0), withLast(0, 0), withLast(0, 0, 0, 0), withLast(0, 0, 0, 0, 4),
            withLast(0, 0, 0, 0, 4, 0, 0), withLast(0, 0, 0, 0, 4, 0, 0, 0), withLast(39, 16, 0, 0, 4, 0), withLast(40, 0, 0, 0, 4, 0),
            withLast(255, 255, 0, 0, 4, 0), withLast(0, 0, 3, 0, 4, 0), withLast(0, 0, 0, 0, 5, 0), withLast(0, 0, 255, 0, 4, 0),
            withLast(0, 0, 0, 2, 4, 0), withLast(0, 0, 0, 0, 4, 2), withLast(0, 0, 0, 255, 4, 0), withLast(0, 0, 0, 0, 4, 255)};
        for (int[] octets : wrong) {
            Check.due("on() of " + Arrays.toString(octets), false, Check.on(x, octets));
            tapeIs(x, 0);
            Check.due("status(5)", ++refused, x.status(5));
        }
        int[] good = withLast(0, 0, 0, 0, 4, 0);
        for (int last = 0; last < 256; last++) {
            if (last != good[6] && (last % 16 == 0 || last % 251 == good[6] % 251 || Math.abs(last - good[6]) < 3)) {
                Check.due("on() with the last byte " + last, false, Check.on(x, 0, 0, 0, 0, 4, 0, last));
                refused++;
            }
        }
        same("what was no image", before, x);
        Check.due("status(5)", refused, x.status(5));
        // a last byte above 250 that leaves the same by 251 is another one
        int tried = 0;
        for (int many = 0; many < 300; many++) {
            int[] image = withLast(many / 256, many % 256);
            if (image[2] <= 4) {
                image[2] += 251;
                Check.due("on() of a last byte " + image[2], false, Check.on(new LockOrchestra(), image));
                image[2] -= 251;
                Check.due("on() of a last byte " + image[2], true, Check.on(new LockOrchestra(), image));
                tried++;
            }
        }
        Check.due("whether some were tried", true, tried > 0);
    }

    private static void status() {
        LockOrchestra x = Check.orchestra(HALL);
        int[] due = new int[6];
        for (int times = 0; times < 2; times++) {
            x.end(-1);
            counts(x, due, 0);
            x.end(1);
            counts(x, due, 0);
            Check.tape(x, "x");
            x.hall();
            counts(x, due, 1);
            Check.judge(x, 9);
            counts(x, due, 1);
            Check.share(x, 9);
            counts(x, due, 1);
            Check.slip(x, 0, 9);
            counts(x, due, 1);
            Check.slip(x, 8, 6);
            counts(x, due, 1);
            Check.hear(x, 9, 9);
            counts(x, due, 1);
            x.play(9);
            counts(x, due, 2);
            Check.piece(x);
            counts(x, due, 2);
            Check.piece(x, 9);
            counts(x, due, 2);
            x.oil(0);
            counts(x, due, 3);
            x.evening(0);
            counts(x, due, 3);
            x.undo();
            counts(x, due, 4);
            x.seed(-1);
            counts(x, due, 5);
            Check.on(x, 1);
            counts(x, due, 5);
        }
        // what answers NONE without being refused counts none
        Check.ask(x, "x");
        Check.share(x, 1, 1);
        x.has(99);
        x.fault(9);
        x.letter(9, 9, 9);
        x.lock(9, 9);
        x.note(9, 9);
        x.door(9);
        x.player(9);
        x.kept(9, 9);
        x.judged(9);
        x.shortest(99, 9);
        x.back(9);
        x.forbid(99);
        x.slipped(9);
        x.starts(9);
        x.hangs(9);
        x.octet(99);
        x.status(9);
        others("status", x::status, due);
        // the tape too full
        for (int k = 0; k < 81; k++) {
            x.feed(0, 0, 0, 0, 0);
        }
        counts(x, due, 0);
    }

    private static void counts(LockOrchestra x, int[] due, int kind) {
        due[kind]++;
        for (int what = 0; what < 6; what++) {
            Check.due("status(" + what + ")", due[what], x.status(what));
        }
    }
}
