import java.util.Arrays;

/** Terms III: each bound of pieces, of what can be come to, of what is forbidden, shared, heard, slipped. */
public final class BoundsOfPiecesTest {
    private static final String RING = "lock a wards 5 at 0;note n turns a 1;note m turns a 2;door d opens at 0=0;"
        + "door e opens at 0=1;door f opens at 0=2;door g opens at 0=3;door h opens at 0=4;";
    private static final String SIX_NOTES = "lock l wards 5 at 0;note a turns l 1;note b turns l 1;note c turns l 1;"
        + "note d turns l 1;note e turns l 1;note f turns l 1;player p plays a b c d e f;player q plays a b c d e f;";

    public static void main(String[] args) {
        Sentence.of("III", "As all is now (nothing rusts, nothing is OILED):", BoundsOfPiecesTest::asAllIsNow);
        Sentence.of("III", "the SHORTEST PIECE of NOTES behind which just told DOORS are OPEN;", BoundsOfPiecesTest::shortest);
        Sentence.of("III", "of like ones the first, NOTE by NOTE.", BoundsOfPiecesTest::firstOfLikeOnes);
        Sentence.of("III", "The way BACK: the SHORTEST one behind which all LOCKS stand as they were told, none JAMMED.",
            BoundsOfPiecesTest::back);
        Sentence.of("III", "COME TO can be so many STATES (where all LOCKS stand, which are JAMMED; the one now, too).",
            BoundsOfPiecesTest::states);
        Sentence.of("III", "FORBIDDEN are the fewest NOTES without which all of told DOORS are never OPEN at once;",
            BoundsOfPiecesTest::forbidden);
        Sentence.of("III", "never OPEN at once; of like ones the least bits.", BoundsOfPiecesTest::forbiddenLeastBits);
        Sentence.of("III", "SHARED: the fewest PLAYERS who have all NOTES of a PIECE between them", BoundsOfPiecesTest::fewestPlayers);
        Sentence.of("III", "so that nobody PLAYS two that follow each other (a REST between them is enough);",
            BoundsOfPiecesTest::nobodyTwo);
        Sentence.of("III", "(a REST between them is enough); of like ones the least bits.", BoundsOfPiecesTest::sharedLeastBits);
        Sentence.of("III", "A PIECE to judge or share is at most 20 bytes, NOTES or 6.", BoundsOfPiecesTest::twentyBytes);
        Sentence.of("III", "HEARD are rows of NOTE or 6, DOORS OPEN behind it, as bits:", BoundsOfPiecesTest::heard);
        Sentence.of("III", "of all ways that LOCKS can stand (none JAMMED), all CAN BE PLAYED.", BoundsOfPiecesTest::starts);
        Sentence.of("III", "Ways are numbered by WARDS: the first LOCK's counts 1, the next one's as many as the WARDS of the"
            + " first, and so on.", BoundsOfPiecesTest::numberedWays);
        Sentence.of("III", "with just one of its NOTES or RESTS another NOTE or REST,", BoundsOfPiecesTest::justOneAnother);
        Sentence.of("III", "all of which CAN BE PLAYED, ends with just told DOORS OPEN:", BoundsOfPiecesTest::allOfASlip);
        Sentence.of("III", "how many such, the first (by places, then by NOTES, a REST behind them).", BoundsOfPiecesTest::firstSlip);
        Check.end("BoundsOfPiecesTest");
    }

    private static void way(LockOrchestra x, int doors, int... due) {
        Check.due("shortest(" + doors + ", -1)", due.length, x.shortest(doors, -1));
        for (int k = 0; k < due.length; k++) {
            Check.due("shortest(" + doors + ", " + k + ")", due[k], x.shortest(doors, k));
        }
        Check.due("shortest(" + doors + ", " + due.length + ")", -1, x.shortest(doors, due.length));
    }

    private static void asAllIsNow() {
        // rust 100 jams nothing here; what is jammed is not oiled
        LockOrchestra x = Check.orchestra("lock a wards 2 at 0 jams 1;lock b wards 2 at 0;note n turns a 1;note m turns b 1;"
            + "door d opens at 0=0;door e opens at 0=1;door f opens jams>1;rust 100;");
        Check.due("states()", 4, x.states());
        way(x, 2, 0);
        Check.due("shortest(4, -1): b is never jammed", -1, x.shortest(4, -1));
        Check.due("forbid(4)", 0, x.forbid(4));
        Check.due("judge n m m", 3, Check.judge(x, 0, 1, 1));
        Check.due("judged(1): nothing rusts", 1, x.judged(1));
        x.play(0);
        Check.due("shortest(1, -1): a is not oiled", -1, x.shortest(1, -1));
        Check.due("back(-1)", -1, x.back(-1));
        Check.due("states()", 2, x.states());
        x.oil(0);
        way(x, 1, 0);
        Check.due("states() oiled", 6, x.states());
        // from where it is now, not from where it stood at first
        x = Check.orchestra(RING);
        way(x, 8, 0, 1);
        x.play(0);
        way(x, 8, 1);
        x.undo();
        way(x, 8, 0, 1);
        // a search plays nothing and draws nothing
        Check.due("has(5)", 0, x.has(5));
        Check.due("has(10)", 0, x.has(10));
    }

    private static void shortest() {
        LockOrchestra x = Check.orchestra(RING);
        way(x, 1);
        way(x, 2, 0);
        way(x, 4, 1);
        way(x, 8, 0, 1);
        way(x, 16, 1, 1);
        // just those: none is open alone with another, never none
        for (int doors : new int[] {0, 3, 5, 31}) {
            Check.due("shortest(" + doors + ", -1)", -1, x.shortest(doors, -1));
        }
        // another one open is too many
        x = Check.orchestra("lock a wards 3 at 0;note n turns a 1;door d opens at 0>0;door e opens at 0=1;");
        way(x, 0);
        way(x, 3, 0);
        way(x, 1, 0, 0);
        Check.due("shortest(2, -1)", -1, x.shortest(2, -1));
        // a rest is no note: it makes no way longer or shorter
        x = Check.orchestra("lock a wards 2 at 0;door d opens at 0=0;");
        way(x, 1);
        Check.due("shortest(0, -1) of no notes", -1, x.shortest(0, -1));
        way(new LockOrchestra(), 0);
        // the longest that one note gives: all ways of 3 and 4 and 5 wards
        x = Check.orchestra("lock a wards 3 at 0;lock b wards 4 at 0;lock c wards 5 at 0;note n turns a 1 b 1 c 1;"
            + "door d opens at 0=2 and at 1=3 and at 2=4;");
        Check.due("shortest(1, -1)", 59, x.shortest(1, -1));
        Check.due("shortest(1, 58)", 0, x.shortest(1, 58));
        Check.due("shortest(1, 59)", -1, x.shortest(1, 59));
        Check.due("states()", 60, x.states());
    }

    private static void firstOfLikeOnes() {
        // any order of three notes; any of two notes that do the same
        LockOrchestra x = Check.orchestra("lock a wards 2 at 0;lock b wards 2 at 0;lock c wards 2 at 0;note n turns c 1;"
            + "note m turns b 1;note o turns a 1;note p turns a 1;door d opens at 0+at 1+at 2=3;door e opens at 0+at 1+at 2=2;");
        way(x, 1, 0, 1, 2);
        way(x, 2, 0, 1);
        // the first note counts most: n q and m o are alike long
        x = Check.orchestra("lock a wards 5 at 0;lock b wards 5 at 0;note n turns a 1;note m turns a 2;note o turns b 1;"
            + "note q turns b 3;door d opens at 0=1 and at 1=3 or at 0=2 and at 1=1;");
        way(x, 1, 0, 3);
        // a shorter one of later notes is ahead of a longer one of first notes
        x = Check.orchestra("lock a wards 5 at 0;note n turns a 1;note m turns a 1;note o turns a 3;door d opens at 0=3;");
        way(x, 1, 2);
    }

    private static void back() {
        LockOrchestra x = Check.orchestra("lock a wards 5 at 3;note n turns a 1;note m turns a 2;");
        int[][] due = {{}, {1, 1}, {0, 1}, {1}, {0}};
        for (int by = 0; by < 5; by++) {
            Check.due("back(-1), " + by + " on", due[by].length, x.back(-1));
            for (int k = 0; k < due[by].length; k++) {
                Check.due("back(" + k + ")", due[by][k], x.back(k));
            }
            Check.due("back behind it", -1, x.back(due[by].length));
            x.play(0);
        }
        // all of them must stand so
        x = Check.orchestra("lock a wards 2 at 1;lock b wards 3 at 2;note n turns a 1 b 1;");
        x.play(0);
        Check.due("back(-1)", 5, x.back(-1));
        // none jammed: there, but jammed, is not back
        x = Check.orchestra("lock a wards 2 at 0 jams 0;lock b wards 2 at 0;note n turns a 1;note m turns b 1;");
        Check.due("back(-1)", 0, x.back(-1));
        x.play(1);
        Check.due("back(-1)", 1, x.back(-1));
        x.play(1);
        x.play(0);
        Check.due("back(-1): there it jams", -1, x.back(-1));
        x.play(0);
        Check.due("back(-1): jammed where it was told", -1, x.back(-1));
        x.oil(0);
        Check.due("back(-1), oiled", 0, x.back(-1));
        Check.due("back(-1) of nothing", 0, new LockOrchestra().back(-1));
        Check.due("back(0) of nothing", -1, new LockOrchestra().back(0));
    }

    private static void states() {
        Check.due("states() of nothing", 1, new LockOrchestra().states());
        Check.due("states() of no notes", 1, Check.orchestra("lock a wards 5 at 2;").states());
        Check.due("states() of one lock", 5, Check.orchestra("lock a wards 5 at 2;note n turns a 1;").states());
        Check.due("states() by twos", 2, Check.orchestra("lock a wards 4 at 0;note n turns a 2;").states());
        Check.due("states() by a whole round", 1, Check.orchestra("lock a wards 4 at 0;note n turns a 4;").states());
        // where it stands and whether it is jammed: at its ward it stands unjammed first, jammed later
        Check.due("states() from where it jams", 3, Check.orchestra("lock a wards 2 at 0 jams 0;note n turns a 1;").states());
        Check.due("states() to where it jams", 2, Check.orchestra("lock a wards 2 at 0 jams 1;note n turns a 1;").states());
        StringBuilder text = new StringBuilder();
        for (String name : new String[] {"a", "b", "c", "d"}) {
            text.append("lock ").append(name).append(" wards 5 at 0;note n").append(name).append(" turns ").append(name).append(" 1;");
        }
        Check.due("states() of 5 to the fourth", 625, Check.orchestra(text.toString()).states());
        String jams = text.toString().replace("at 0", "at 0 jams 0");
        LockOrchestra x = Check.orchestra(jams);
        Check.due("states() of 6 to the fourth", 1296, x.states());
        for (int note = 0; note < 4; note++) {
            x.play(note);
        }
        Check.due("states() of 5 to the fourth, one of five jammed", 625, x.states());
        Check.due("back(-1)", -1, x.back(-1));
    }

    private static void forbidden() {
        LockOrchestra x = Check.orchestra(RING);
        Check.due("forbid(1): open now", -1, x.forbid(1));
        Check.due("forbid(2): n or m, m m m gets there", 3, x.forbid(2));
        Check.due("forbid(3): never at once", 0, x.forbid(3));
        x = Check.orchestra("lock a wards 4 at 0;note n turns a 1;note m turns a 2;door d opens at 0=1;door e opens at 0=2;"
            + "door f opens at 0>0;");
        Check.due("forbid(1): by twos it is not come to", 1, x.forbid(1));
        Check.due("forbid(2)", 3, x.forbid(2));
        Check.due("forbid(4)", 3, x.forbid(4));
        Check.due("forbid(5): others may be open", 1, x.forbid(5));
        Check.due("forbid(6)", 3, x.forbid(6));
        Check.due("forbid(7)", 0, x.forbid(7));
        // all notes are needed to be forbidden; the sixth one, too
        x = Check.orchestra("lock l wards 2 at 0;note a turns l 1;note b turns l 1;note c turns l 1;note d turns l 1;"
            + "note e turns l 1;note f turns l 1;door g opens at 0=1;");
        Check.due("forbid(1), each opens it", 63, x.forbid(1));
        x = Check.orchestra("lock l wards 2 at 0;lock k wards 2 at 0;note a turns l 1;note b turns l 1;note c turns l 1;"
            + "note d turns l 1;note e turns l 1;note f turns k 1;door g opens at 0=1 and at 1=1;");
        Check.due("forbid(1): one of high bits is fewer than five", 32, x.forbid(1));
    }

    private static void forbiddenLeastBits() {
        LockOrchestra x = Check.orchestra("lock l wards 2 at 0;lock k wards 2 at 0;lock m wards 2 at 0;note a turns l 1;"
            + "note b turns k 1;note c turns m 1;door d opens at 0+at 1+at 2=3;door e opens at 1=1 and at 2=1;"
            + "door f opens at 2=1 and [at 0=1 or at 1=1];");
        Check.due("forbid(1): a, b or c", 1, x.forbid(1));
        Check.due("forbid(2): b or c", 2, x.forbid(2));
        Check.due("forbid(4): c", 4, x.forbid(4));
        x = Check.orchestra("lock l wards 2 at 0;lock k wards 2 at 0;note a turns l 1;note b turns l 1;note c turns k 1;"
            + "note d turns k 1;door e opens at 0=1 and at 1=1;");
        Check.due("forbid(1): a and b, or c and d", 3, x.forbid(1));
    }

    private static void fewestPlayers() {
        String notes = "lock l wards 2 at 0;note a turns l 1;note b turns l 1;note c turns l 1;";
        // two of low bits or one of high bits
        LockOrchestra x = Check.orchestra(notes + "player p plays a;player q plays b;player r plays c;player s plays a b c;");
        Check.due("share of nothing", 0, Check.share(x));
        Check.due("share a", 1, Check.share(x, 0));
        Check.due("share a rest b: s alone", 8, Check.share(x, 0, 6, 1));
        Check.due("share a rest b rest c: s alone", 8, Check.share(x, 0, 6, 1, 6, 2));
        Check.due("share a b c: s and q", 10, Check.share(x, 0, 1, 2));
        // all five are needed
        x = Check.orchestra("lock l wards 2 at 0;note a turns l 1;note b turns l 1;note c turns l 1;note d turns l 1;"
            + "note e turns l 1;player p plays a;player q plays b;player r plays c;player s plays d;player t plays e;");
        Check.due("share among all five", 31, Check.share(x, 0, 1, 2, 3, 4));
        Check.due("share among four", 30, Check.share(x, 4, 6, 3, 2, 1));
        Check.due("share without the players of what is not in it", 16, Check.share(x, 4));
        // a note that nobody has, no players at all
        x = Check.orchestra(notes + "player p plays a;player q plays a b;");
        Check.due("share c", -1, Check.share(x, 2));
        Check.due("share a c a", -1, Check.share(x, 0, 2, 0));
        x = Check.orchestra(notes);
        Check.due("share a of no players", -1, Check.share(x, 0));
        Check.due("share of rests of no players", 0, Check.share(x, 6, 6));
        Check.due("nothing was refused", 0, x.status(1));
    }

    private static void nobodyTwo() {
        LockOrchestra x = Check.orchestra(SIX_NOTES);
        Check.due("share a", 1, Check.share(x, 0));
        Check.due("share a a: not one alone", 3, Check.share(x, 0, 0));
        Check.due("share a b", 3, Check.share(x, 0, 1));
        Check.due("share a rest a", 1, Check.share(x, 0, 6, 0));
        Check.due("share a rest b rest c", 1, Check.share(x, 0, 6, 1, 6, 2));
        Check.due("share a rest b c", 3, Check.share(x, 0, 6, 1, 2));
        Check.due("share a rest rest b", 1, Check.share(x, 0, 6, 6, 1));
        Check.due("share rest a rest", 1, Check.share(x, 6, 0, 6));
        Check.due("share of twenty", 3, Check.share(x, 0, 1, 2, 3, 4, 5, 0, 1, 2, 3, 4, 5, 0, 1, 2, 3, 4, 5, 0, 1));
        // who plays the first hangs on who must play a later one
        x = Check.orchestra("lock l wards 2 at 0;note a turns l 1;note b turns l 1;note c turns l 1;"
            + "player p plays a b;player q plays a b c;");
        Check.due("share a b c: p must play b, q a", 3, Check.share(x, 0, 1, 2));
        Check.due("share a a c: q p q", 3, Check.share(x, 0, 0, 2));
        Check.due("share c c", -1, Check.share(x, 2, 2));
        Check.due("share c a c", 3, Check.share(x, 2, 0, 2));
        Check.due("share c a b c: p and q by turns would end at p", -1, Check.share(x, 2, 0, 1, 2));
        Check.due("share c a rest b c", 3, Check.share(x, 2, 0, 6, 1, 2));
        x = Check.orchestra("lock l wards 2 at 0;note a turns l 1;note b turns l 1;note c turns l 1;"
            + "player p plays a b;player q plays a b c;player r plays b;");
        Check.due("share c a b c: q p r q", 7, Check.share(x, 2, 0, 1, 2));
    }

    private static void sharedLeastBits() {
        LockOrchestra x = Check.orchestra("lock l wards 2 at 0;note a turns l 1;note b turns l 1;note c turns l 1;"
            + "player p plays b;player q plays a;player r plays a b;player s plays a c;player t plays c b;");
        Check.due("share a: q, r or s", 2, Check.share(x, 0));
        Check.due("share b: p, r or t", 1, Check.share(x, 1));
        Check.due("share c: s or t", 8, Check.share(x, 2));
        Check.due("share a b: p and q", 3, Check.share(x, 0, 1));
        Check.due("share a c: q and s", 10, Check.share(x, 0, 2));
        Check.due("share a rest c: s", 8, Check.share(x, 0, 6, 2));
        Check.due("share c c", 24, Check.share(x, 2, 2));
        Check.due("share a b c: p and s", 9, Check.share(x, 0, 1, 2));
    }

    private static int[] rests(int many) {
        int[] piece = new int[many];
        Arrays.fill(piece, 6);
        return piece;
    }

    private static void twentyBytes() {
        LockOrchestra x = Check.orchestra(SIX_NOTES);
        for (int many = 0; many <= 20; many++) {
            Check.due("judge of " + many, many, Check.judge(x, rests(many)));
            Check.due("share of " + many, 0, Check.share(x, rests(many)));
        }
        Check.due("status(1)", 0, x.status(1));
        Check.due("judge of 21", -1, Check.judge(x, rests(21)));
        Check.due("share of 21", -1, Check.share(x, rests(21)));
        Check.due("judge of 40", -1, Check.judge(x, rests(40)));
        Check.due("share of 40", -1, Check.share(x, rests(40)));
        Check.due("status(1)", 4, x.status(1));
        for (int octet = 0; octet <= 8; octet++) {
            Check.due("judge " + octet, octet <= 6 ? 1 : -1, Check.judge(x, octet));
            Check.due("share " + octet, octet < 6 ? 1 : octet == 6 ? 0 : -1, Check.share(x, octet));
        }
        Check.due("judge 255", -1, Check.judge(x, 255));
        Check.due("share 255", -1, Check.share(x, 255));
        // of fewer notes fewer bytes are good, and each place counts
        x = Check.orchestra("lock l wards 2 at 0;note a turns l 1;note b turns l 1;player p plays a b;");
        for (int octet = 0; octet <= 8; octet++) {
            boolean good = octet < 2 || octet == 6;
            Check.due("judge " + octet + " of two", good ? 3 : -1, Check.judge(x, 6, 6, octet));
            Check.due("share " + octet + " of two", octet < 2 ? 1 : good ? 0 : -1, Check.share(x, octet, 6));
        }
    }

    private static void heard() {
        LockOrchestra x = Check.orchestra("lock a wards 3 at 0;note n turns a 1;door d opens at 0=1;door e opens at 0>0;");
        // the bits are of the doors behind each note, not ahead of it
        Check.due("hear n, both", 1, Check.hear(x, 0, 3));
        Check.due("starts(1)", 0, x.starts(1));
        Check.due("hear n, e", 1, Check.hear(x, 0, 2));
        Check.due("starts(1)", 1, x.starts(1));
        Check.due("hear n, none", 1, Check.hear(x, 0, 0));
        Check.due("starts(1)", 2, x.starts(1));
        Check.due("hear rest, e", 1, Check.hear(x, 6, 2));
        Check.due("starts(1)", 2, x.starts(1));
        Check.due("hear n, d alone", 1, Check.hear(x, 0, 1));
        Check.due("starts(0)", 0, x.starts(0));
        // each row counts, the last one, too
        int[] rows = new int[40];
        for (int k = 0; k < 20; k++) {
            rows[2 * k + 1] = new int[] {3, 2, 0}[k % 3];
        }
        Check.due("hear of twenty", 20, Check.hear(x, rows));
        Check.due("starts(0)", 1, x.starts(0));
        Check.due("starts(1)", 0, x.starts(1));
        rows[39] ^= 1;
        Check.due("hear of twenty", 20, Check.hear(x, rows));
        Check.due("starts(0)", 0, x.starts(0));
        // notes and bits at their bounds
        for (int note = 0; note <= 8; note++) {
            Check.due("hear " + note, note == 0 || note == 6 ? 1 : -1, Check.hear(x, note, 0));
        }
        for (int doors : new int[] {0, 1, 2, 3, 4, 5, 8, 64, 128, 255}) {
            Check.due("hear doors " + doors, doors < 4 ? 1 : -1, Check.hear(x, 0, doors));
        }
        x = Check.orchestra(SIX_NOTES + "door g opens all;door h opens all;door i opens all;door j opens all;"
            + "door k opens all;door m opens all;");
        Check.due("hear of six doors", 2, Check.hear(x, 5, 63, 6, 63));
        Check.due("starts(0)", 5, x.starts(0));
        Check.due("hear of a seventh door", -1, Check.hear(x, 5, 64));
        Check.due("hear of a seventh door", -1, Check.hear(x, 5, 127));
    }

    private static void starts() {
        LockOrchestra x = Check.orchestra("lock a wards 3 at 0 jams 2;lock b wards 2 at 0;note n turns a 1;note m turns b 1;");
        // also from where it jams it can be turned; turned there, no more
        Check.due("hear n", 1, Check.hear(x, 0, 0));
        Check.due("starts(0): from each way", 6, x.starts(0));
        Check.due("hear n n", 2, Check.hear(x, 0, 0, 0, 0));
        Check.due("starts(0): not from 1", 4, x.starts(0));
        Check.due("hear n n n", 3, Check.hear(x, 0, 0, 0, 0, 0, 0));
        Check.due("starts(0): from 2, jammed with the third", 2, x.starts(0));
        Check.due("starts(1)", 2, x.starts(1));
        Check.due("starts(2)", 5, x.starts(2));
        Check.due("hear n n n n", 4, Check.hear(x, 0, 0, 0, 0, 0, 0, 0, 0));
        Check.due("starts(0): from none", 0, x.starts(0));
        Check.due("starts(1)", -1, x.starts(1));
        Check.due("starts(2)", -1, x.starts(2));
        // it is not asked how all is now
        x.play(0);
        x.play(0);
        Check.due("has(6)", 1, x.has(6));
        Check.due("hear n", 1, Check.hear(x, 0, 0));
        Check.due("starts(0): none jammed", 6, x.starts(0));
        // without locks there is one way
        x = new LockOrchestra();
        Check.due("hear rest", 1, Check.hear(x, 6, 0));
        Check.due("starts(0)", 1, x.starts(0));
        Check.due("starts(1)", 0, x.starts(1));
        Check.due("starts(2)", 0, x.starts(2));
    }

    private static void numberedWays() {
        int[] many = {2, 3, 4, 5};
        String locks = "lock a wards 2 at 0;lock b wards 3 at 0;lock c wards 4 at 0;lock d wards 5 at 0;";
        for (int way = 0; way < 120; way++) {
            StringBuilder test = new StringBuilder("door e opens all");
            int rest = way;
            for (int lock = 0; lock < 4; lock++) {
                test.append(" and at ").append(lock).append("=").append(rest % many[lock]);
                rest /= many[lock];
            }
            LockOrchestra x = Check.orchestra(locks + test + ";");
            Check.hear(x, 6, 1);
            Check.due("starts(0), way " + way, 1, x.starts(0));
            Check.due("starts(1), way " + way, way, x.starts(1));
            Check.due("starts(2), way " + way, way, x.starts(2));
        }
        LockOrchestra x = Check.orchestra("lock a wards 5 at 0;lock b wards 5 at 0;lock c wards 5 at 0;lock d wards 5 at 0;"
            + "note n turns a 1;door e opens at 0+at 1+at 2+at 3=16;");
        Check.hear(x, 6, 1);
        Check.due("starts(1), the greatest way", 624, x.starts(1));
        Check.hear(x, 6, 0);
        Check.due("starts(0)", 624, x.starts(0));
        Check.due("starts(1)", 0, x.starts(1));
        Check.due("starts(2)", 623, x.starts(2));
        Check.hear(x, 0, 1);
        Check.due("starts(1), ahead of the note", 623, x.starts(1));
    }

    private static void justOneAnother() {
        // no door: each slip ends so, as many as there are places and other notes
        LockOrchestra x = Check.orchestra(SIX_NOTES);
        for (int many = 0; many <= 20; many++) {
            Check.due("slip of " + many + " rests", 6 * many, Check.slip(x, 0, rests(many)));
        }
        Check.due("slip of a note", 6, Check.slip(x, 0, 3));
        x = Check.orchestra("lock l wards 2 at 0;note a turns l 1;");
        Check.due("slip of one note", 1, Check.slip(x, 0, 0));
        Check.due("slip of one rest", 1, Check.slip(x, 0, 6));
        Check.due("slip of a rest without notes", 0, Check.slip(new LockOrchestra(), 0, 6));
        // the piece itself is no slip, nor are two wrong ones
        x = Check.orchestra("lock l wards 5 at 0;note a turns l 1;door d opens at 0=0;door e opens at 0=1;door f opens at 0=2;"
            + "door g opens at 0=3;");
        Check.due("slip(4) of a a: itself", 0, Check.slip(x, 4, 0, 0));
        Check.due("slip(2) of a a: one a rest", 2, Check.slip(x, 2, 0, 0));
        Check.due("slip(1) of a a: both rests", 0, Check.slip(x, 1, 0, 0));
    }

    private static void allOfASlip() {
        // l jams at 2: a slip that turns it there ahead of the end can't be played on
        LockOrchestra x = Check.orchestra("lock l wards 4 at 0 jams 2;note a turns l 1;note b turns l 2;door d opens at 0=1;"
            + "door e opens jams=1;");
        Check.due("slip(1) of a a: a rest for either", 2, Check.slip(x, 1, 0, 0));
        Check.due("slip(2) of a rest: a a, b rest", 2, Check.slip(x, 2, 0, 6));
        Check.due("slip(2) of a a: b a can't be", 0, Check.slip(x, 2, 0, 0));
        Check.due("slip(0) of b a: a b ends at 3, but b a a can't", 0, Check.slip(x, 0, 1, 0, 0));
        Check.due("slip(0) of a a: a b", 1, Check.slip(x, 0, 0, 0));
        // the piece itself need not be playable
        Check.due("slip(2) of a a a: a a rest, a rest a, rest a a", 3, Check.slip(x, 2, 0, 0, 0));
        // from now on
        x.play(0);
        Check.due("slip(2) of rest: a", 1, Check.slip(x, 2, 6));
        Check.due("slip(0) of rest: b", 1, Check.slip(x, 0, 6));
        x.play(0);
        Check.due("slip(2) of rest rest, jammed: none, each other note turns l", 0, Check.slip(x, 2, 6, 6));
        Check.due("slip(2) of a, jammed: a rest", 1, Check.slip(x, 2, 0));
        // just those doors: d alone, not d and another
        x = Check.orchestra("lock l wards 3 at 0;note a turns l 1;note b turns l 2;door d opens at 0>0;door e opens at 0=2;");
        Check.due("slip(1) of rest: a", 1, Check.slip(x, 1, 6));
        Check.due("slipped(1)", 0, x.slipped(1));
        Check.due("slip(3) of rest: b", 1, Check.slip(x, 3, 6));
        Check.due("slipped(1)", 1, x.slipped(1));
        Check.due("slip(2) of rest", 0, Check.slip(x, 2, 6));
    }

    private static void firstSlip(LockOrchestra x, int place, int note) {
        Check.due("slipped(0)", place, x.slipped(0));
        Check.due("slipped(1)", note, x.slipped(1));
    }

    private static void firstSlip() {
        LockOrchestra x = Check.orchestra("lock l wards 5 at 0;note a turns l 1;note b turns l 2;note c turns l 1;"
            + "door d opens at 0=1;door e opens at 0=2;door f opens at 0=3;door g opens at 0=4;door h opens at 0=0;");
        Check.due("slip(1) of rest rest: a or c for either", 4, Check.slip(x, 1, 6, 6));
        firstSlip(x, 0, 0);
        Check.due("slip(2) of a rest", 3, Check.slip(x, 2, 0, 6));
        firstSlip(x, 0, 1);
        // places count ahead of notes: a rest at the first place ahead of a at the second
        Check.due("slip(1) of b rest a: a rest for b alone", 1, Check.slip(x, 1, 1, 6, 0));
        firstSlip(x, 0, 6);
        Check.due("slip(1) of a a: a rest for either", 2, Check.slip(x, 1, 0, 0));
        firstSlip(x, 0, 6);
        // the first note that is another one: c for a
        Check.due("slip(1) of a: c", 1, Check.slip(x, 1, 0));
        firstSlip(x, 0, 2);
        // at the last place of twenty
        x = Check.orchestra("lock l wards 2 at 0 jams 1;note a turns l 1;door d opens jams=1;");
        int[] piece = rests(20);
        piece[19] = 0;
        Check.due("slip(0) of 19 rests and a: a rest for it", 1, Check.slip(x, 0, piece));
        firstSlip(x, 19, 6);
        Check.due("slip(1) of 20 rests", 20, Check.slip(x, 1, rests(20)));
        firstSlip(x, 0, 0);
    }
}
