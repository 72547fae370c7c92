/** Terms I: each bound of a hall's text, at the last that is taken and at the first that is not. */
public final class BoundsOfTextTest {
    private static final String LOCK = "lock l wards 3 at 0;";
    private static final String FOUR = "lock a wards 2 at 0;lock b wards 2 at 0;lock c wards 2 at 0;lock d wards 2 at 0;";
    private static final String SIX = LOCK + "note a turns l 1;note b turns l 1;note c turns l 1;note d turns l 1;"
        + "note e turns l 1;note f turns l 1;";
    private static final String[] OWN = {"lock", "wards", "at", "jams", "note", "turns", "door", "opens", "player",
        "plays", "rust", "ward", "stuck", "number", "or", "and", "not", "all", "min", "max"};
    private static final String[] TOKENS = ("lock a wards 3 at 0 jams 2 ; lock b wards 5 at 4 ; note n turns a 1 b 4 ; "
        + "door d opens not [ all or 1 < 2 ] and min ( at 0 , jams ) + 3 * ( 4 - 1 ) / 2 > max ( 0 , at ( 1 ) ) ; "
        + "player p plays n ; rust 50 ;").split(" ");

    public static void main(String[] args) {
        ofStatements();
        ofTests();
        ofNames();
        ofFaults();
        Check.end("BoundsOfTextTest");
    }

    private static void ofStatements() {
        Sentence.of("I", "A HALL is a text: { STATEMENT ; } (60 at most)", BoundsOfTextTest::sixtyStatements);
        Sentence.of("I", "lock NAME wards N at N (2 .. 5 WARDS;", BoundsOfTextTest::wards);
        Sentence.of("I", "0 .. WARDS less 1: where it stands;", BoundsOfTextTest::whereItStands);
        Sentence.of("I", "4 LOCKS), then jams N if it jams at a WARD", BoundsOfTextTest::whereItJams);
        Sentence.of("I", "note NAME turns NAME N { NAME N } (LOCKS, unlike ones", BoundsOfTextTest::locksOfANote);
        Sentence.of("I", "1 .. 4 WARDS on; 6 NOTES)", BoundsOfTextTest::wardsOn);
        Sentence.of("I", "door NAME opens TEST (6 DOORS)", BoundsOfTextTest::sixDoors);
        Sentence.of("I", "player NAME plays NAME { NAME } (NOTES, unlike ones; 5 PLAYERS)", BoundsOfTextTest::notesOfAPlayer);
        Sentence.of("I", "rust N (0 .. 100, the last one counts, 0 without)", BoundsOfTextTest::rust);
    }

    private static void ofTests() {
        Sentence.of("I", "PART: N (1 to 4 digits)", BoundsOfTextTest::digits);
        Sentence.of("I", "(How many LOCKS are JAMMED;", BoundsOfTextTest::howManyJammed);
        Sentence.of("I", "the WARD at which the LOCK of that number stands, -1 of numbers that there are not.)",
            BoundsOfTextTest::atNumbers);
        Sentence.of("I", "All from the left on;", BoundsOfTextTest::fromTheLeft);
        Sentence.of("I", "/ gives the greatest whole number not above, by 0 it gives 0;", BoundsOfTextTest::divided);
        Sentence.of("I", "each sum, difference, product above 10 to the 6 is that, below -10 to the 6 likewise.",
            BoundsOfTextTest::aMillion);
        Sentence.of("I", "SIGN < or > or = .", BoundsOfTextTest::signs);
        Sentence.of("I", "FACT: not FACT; [ TEST ] ; all;", BoundsOfTextTest::facts);
    }

    private static void ofNames() {
        Sentence.of("I", "NAMES: 1 to 6 letters,", BoundsOfTextTest::sixLetters);
        Sentence.of("I", "no OWN WORD,", BoundsOfTextTest::ownWords);
        Sentence.of("I", "unlike ones (of all sorts),", BoundsOfTextTest::unlikeNames);
        Sentence.of("I", "told ahead of where they are asked.", BoundsOfTextTest::toldAhead);
        Sentence.of("I", "Blanks (10, 32) are where one likes", BoundsOfTextTest::blanks);
        Sentence.of("I", "(words and numbers side by side need one)", BoundsOfTextTest::sideBySide);
    }

    private static void ofFaults() {
        Sentence.of("I", "FAULTS, the first along the text:", BoundsOfTextTest::firstFault);
        Sentence.of("I", "1 the first byte with which no such text goes on", BoundsOfTextTest::strangeBytes);
        Sentence.of("I", "(words and numbers whole, at their first byte;", BoundsOfTextTest::wholeWords);
        Sentence.of("I", "where a NAME is asked, an OWN WORD so, a 7th letter at itself;", BoundsOfTextTest::askedNames);
        Sentence.of("I", "where a number is asked, a 5th digit at itself;", BoundsOfTextTest::fifthDigit);
        Sentence.of("I", "at the text's length, if it ends too soon)", BoundsOfTextTest::endsTooSoon);
        Sentence.of("I", "2 a number that can't be, at it;", BoundsOfTextTest::numbersThatCannotBe);
        Sentence.of("I", "3 a NAME to be given that is there already, one that is none of what is asked, or is told in"
            + " that row already, at it;", BoundsOfTextTest::wrongNames);
        Sentence.of("I", "4 the 7th of ( [ not at that is open at once", BoundsOfTextTest::seventhOpen);
        Sentence.of("I", "(not until its FACT, at until its PART ends), at it;", BoundsOfTextTest::openUntil);
        Sentence.of("I", "5 one too many of a kind,", BoundsOfTextTest::oneTooMany);
        Sentence.of("I", "a 61st STATEMENT (whatever stands there), at its first byte.", BoundsOfTextTest::sixtyFirst);
    }

    // ---- statements

    private static void sixtyStatements() {
        Check.hallGood(0, "");
        Check.hallGood(0, " ");
        Check.hallGood(1, "rust 1;");
        Check.hallGood(59, "rust 1;".repeat(59));
        Check.hallGood(60, "rust 1;".repeat(60));
        Check.hallGood(60, "rust 1;".repeat(60) + "\n ");
        Check.hallFault(5, "rust 1;".repeat(60) + "^rust 1;");
        // as many as there can be of each kind, and rust for the rest
        String players = "player p plays a;player q plays a;player r plays a;player s plays a;player t plays a;";
        String doors = "door g opens all;door h opens all;door i opens all;door j opens all;door k opens all;door m opens all;";
        String locks = "lock x wards 2 at 0;lock y wards 2 at 0;lock z wards 2 at 0;";
        String all = SIX + locks + doors + players;
        LockOrchestra x = Check.hallGood(60, all + "rust 1;".repeat(39));
        int[] most = {4, 6, 6, 5, 1};
        for (int what = 0; what < 5; what++) {
            Check.due("has(" + what + "), as many as there can be", most[what], x.has(what));
        }
        Check.hallFault(5, all + "rust 1;".repeat(39) + "^rust 1;");
    }

    private static void wards() {
        for (int many = 0; many <= 7; many++) {
            if (many >= 2 && many <= 5) {
                Check.due("lock(0, 0)", many, Check.hallGood(1, "lock l wards " + many + " at 0;").lock(0, 0));
            } else {
                Check.hallFault(2, "lock l wards ^" + many + " at 0;");
            }
        }
        Check.hallFault(2, "lock l wards ^9999 at 0;");
    }

    private static void whereItStands() {
        for (int many = 2; many <= 5; many++) {
            for (int ward = 0; ward < many; ward++) {
                LockOrchestra x = Check.hallGood(1, "lock l wards " + many + " at " + ward + ";");
                Check.due("lock(0, 1), wards " + many, ward, x.lock(0, 1));
                Check.due("lock(0, 2), wards " + many, ward, x.lock(0, 2));
            }
            Check.hallFault(2, "lock l wards " + many + " at ^" + many + ";");
            Check.hallFault(1, "lock l wards " + many + " at ^-1;");
        }
        Check.hallFault(2, "lock l wards 5 at ^9999;");
    }

    private static void whereItJams() {
        for (int many = 2; many <= 5; many++) {
            for (int ward = 0; ward < many; ward++) {
                LockOrchestra x = Check.hallGood(1, "lock l wards " + many + " at 0 jams " + ward + ";");
                Check.due("lock(0, 3), wards " + many, ward, x.lock(0, 3));
            }
            Check.hallFault(2, "lock l wards " + many + " at 0 jams ^" + many + ";");
            Check.due("lock(0, 3) of one that doesn't jam", -1, Check.hallGood(1, "lock l wards " + many + " at 0;").lock(0, 3));
        }
        Check.due("has(0)", 4, Check.hallGood(4, FOUR).has(0));
        Check.hallFault(5, FOUR + "^lock e wards 2 at 0;");
        Check.hallFault(1, "lock l wards 3 at 0 jams 1 ^jams 2;");
    }

    private static void locksOfANote() {
        LockOrchestra x = Check.hallGood(5, FOUR + "note n turns d 1 b 2 a 3 c 4;");
        int[] by = {3, 2, 4, 1};
        for (int lock = 0; lock < 4; lock++) {
            Check.due("note(0, 1" + lock + ")", by[lock], x.note(0, 10 + lock));
        }
        Check.hallFault(1, FOUR + "note n turns^;");
        Check.hallFault(1, FOUR + "note n turns ^1;");
        Check.hallGood(5, FOUR + "note n turns a 1;");
        Check.hallFault(3, FOUR + "note n turns a 1 ^a 1;");
        Check.hallFault(3, FOUR + "note n turns a 1 b 1 ^a 2;");
        Check.hallFault(3, FOUR + "note n turns d 1 c 1 b 1 a 1 ^d 1;");
        // in another row it may be told again
        Check.hallGood(6, FOUR + "note n turns a 1 b 1;note m turns b 1 a 1;");
    }

    private static void wardsOn() {
        for (int by = 0; by <= 6; by++) {
            if (by >= 1 && by <= 4) {
                Check.due("note(0, 10)", by, Check.hallGood(2, LOCK + "note n turns l " + by + ";").note(0, 10));
                // also as many as there are wards, and more
                Check.hallGood(2, "lock l wards 2 at 0;note n turns l " + by + ";");
            } else {
                Check.hallFault(2, LOCK + "note n turns l ^" + by + ";");
                Check.hallFault(2, FOUR + "note n turns a 1 b ^" + by + ";");
            }
        }
        Check.due("has(1)", 6, Check.hallGood(7, SIX).has(1));
        Check.hallFault(5, SIX + "^note g turns l 1;");
    }

    private static void sixDoors() {
        StringBuilder text = new StringBuilder();
        for (int many = 0; many <= 6; many++) {
            LockOrchestra x = Check.hallGood(many, text.toString());
            Check.due("has(2)", many, x.has(2));
            Check.due("has(7), each open by its own test", 0b010101 & (1 << many) - 1, x.has(7));
            text.append("door ").append((char) ('a' + many)).append(" opens 1<").append(2 - many % 2).append(';');
        }
        Check.hallFault(5, text.toString().replace("door g", "^door g"));
        Check.hallFault(1, "door d opens^;");
        Check.hallFault(1, "door d opens all^,all;");
    }

    private static void notesOfAPlayer() {
        Check.due("player(0)", 63, Check.hallGood(8, SIX + "player p plays f e d c b a;").player(0));
        Check.due("player(0)", 32, Check.hallGood(8, SIX + "player p plays f;").player(0));
        Check.hallFault(1, SIX + "player p plays^;");
        Check.hallFault(3, SIX + "player p plays a ^a;");
        Check.hallFault(3, SIX + "player p plays f e d c b a ^f;");
        Check.hallGood(9, SIX + "player p plays a b;player q plays b a;");
        String five = SIX + "player p plays a;player q plays a;player r plays a;player s plays a;player t plays a;";
        Check.due("has(3)", 5, Check.hallGood(12, five).has(3));
        Check.hallFault(5, five + "^player u plays a;");
    }

    private static void rust() {
        Check.due("has(4) of rust 0", 0, Check.hallGood(1, "rust 0;").has(4));
        Check.due("has(4) of rust 1", 1, Check.hallGood(1, "rust 1;").has(4));
        Check.due("has(4) of rust 100", 100, Check.hallGood(1, "rust 100;").has(4));
        Check.hallFault(2, "rust ^101;");
        Check.hallFault(2, "rust ^9999;");
        Check.due("has(4), the last counts", 3, Check.hallGood(3, "rust 99;rust 100;rust 3;").has(4));
        Check.due("has(4), the last counts", 0, Check.hallGood(2, "rust 100;rust 0;").has(4));
        LockOrchestra x = Check.hallGood(1, "rust 100;");
        Check.hallIs(x, LOCK, 1);
        Check.due("has(4) without, behind one with", 0, x.has(4));
    }

    // ---- tests

    private static void holds(String test, boolean due) {
        Check.due("whether " + test, due, Check.hallGood(3, "lock a wards 3 at 2;lock b wards 5 at 4;door d opens " + test + ";")
            .door(0) == 1);
    }

    private static void digits() {
        holds("0=00", true);
        holds("0007=7", true);
        holds("9999>9998", true);
        holds("9999+1=1000*10", true);
        Check.hallFault(1, "door d opens 1000^0=1;");
        Check.hallFault(1, "door d opens 1=0000^1;");
        Check.hallFault(1, "door d opens ^=1;");
    }

    private static void howManyJammed() {
        String text = FOUR.replace("at 0", "at 0 jams 1") + "note n turns a 1;note m turns b 1;note o turns c 1;note p turns d 1;"
            + "door e opens jams=0;door f opens jams=1;door g opens jams=2;door h opens jams=3;door i opens jams=4;door j opens jams>4;";
        LockOrchestra x = Check.hallGood(14, text);
        Check.due("has(7), none jammed", 1, x.has(7));
        for (int note = 0; note < 4; note++) {
            Check.due("play(" + note + ")", 2 << note, x.play(note));
        }
    }

    private static void atNumbers() {
        holds("at 0=2", true);
        holds("at 1=4", true);
        holds("at 2=0-1", true);
        holds("at 3=0-1", true);
        holds("at 9999=0-1", true);
        holds("at (0-1)=0-1", true);
        holds("at (0-9999*9999)=0-1", true);
        holds("at (9999*9999)=0-1", true);
        // number 2 is one that there is not, -1 likewise
        holds("at at 0=0-1", true);
        holds("at at 2=0-1", true);
        LockOrchestra x = Check.hallGood(6, FOUR.replace("lock d wards 2 at 0", "lock d wards 5 at 3")
            + "door e opens at 3=3;door f opens at 4=0-1;");
        Check.due("has(7) of four locks", 3, x.has(7));
        Check.due("has(7) of no locks", 3, Check.hallGood(2, "door e opens at 0=0-1;door f opens at 0<0;").has(7));
    }

    private static void fromTheLeft() {
        holds("10-3-2=5", true);
        holds("10-3+2=9", true);
        holds("100/7/2=7", true);
        holds("7/2*2=6", true);
        holds("2*7/4=3", true);
        holds("1+2*3=7", true);
        holds("9-6/3=7", true);
        // the first sum is a million already
        holds("1000*1000+1-1=1000*1000-1", true);
        holds("1-1+1000*1000=1000*1000", true);
        // and binds more than or
        holds("all or all and not all", true);
        holds("not all and all or all", true);
        holds("not all and [all or all]", false);
    }

    private static void divided() {
        holds("6/3=2", true);
        holds("7/3=2", true);
        holds("8/3=2", true);
        holds("2/3=0", true);
        holds("0/3=0", true);
        holds("(0-1)/3=0-1", true);
        holds("(0-3)/3=0-1", true);
        holds("(0-4)/3=0-2", true);
        holds("4/(0-3)=0-2", true);
        holds("3/(0-3)=0-1", true);
        holds("(0-4)/(0-3)=1", true);
        holds("(0-1)/(0-3)=0", true);
        holds("0/(0-3)=0", true);
        holds("5/0=0", true);
        holds("(0-5)/0=0", true);
        holds("0/0=0", true);
        holds("1000*1000/(0-1)=0-1000*1000", true);
        holds("(0-1000*1000)/(0-1)=1000*1000", true);
    }

    private static void aMillion() {
        String million = "1000*1000";
        // sums
        holds(million + "-1+1=" + million, true);
        holds(million + "-1<" + million, true);
        holds(million + "+1=" + million, true);
        holds(million + "+1-1=" + million + "-1", true);
        holds(million + "+" + million + "-" + million + "=0", true);
        holds("0-" + million + "+(0-1)+1=1-" + million, true);
        holds("0-" + million + "+(0-1)=0-" + million, true);
        // differences
        holds("1-" + million + "-1=0-" + million, true);
        holds("0-" + million + "<1-" + million, true);
        holds("0-" + million + "-1=0-" + million, true);
        holds("0-" + million + "-1+1=1-" + million, true);
        holds(million + "-(0-1)=" + million, true);
        holds(million + "-(0-1)-1=" + million + "-1", true);
        // products: 999999 and 1000000 and 1001000
        holds("1001*999=" + million + "-1", true);
        holds("1001*1000=" + million, true);
        holds("1001*1000-1=" + million + "-1", true);
        holds("9999*9999/100=1000*10", true);
        holds("(0-1001)*999=1-" + million, true);
        holds("(0-1000)*1000=0-" + million, true);
        holds("(0-1001)*1000=0-" + million, true);
        holds("(0-1001)*1000+1=1-" + million, true);
        // far above what 32 bits hold
        holds("(" + million + ")*(" + million + ")=" + million, true);
        holds("(0-" + million + ")*(" + million + ")=0-" + million, true);
        holds("(0-" + million + ")*(0-" + million + ")=" + million, true);
    }

    private static void signs() {
        holds("1<2", true);
        holds("2<2", false);
        holds("3<2", false);
        holds("3>2", true);
        holds("2>2", false);
        holds("1>2", false);
        holds("2=2", true);
        holds("1=2", false);
        holds("3=2", false);
        Check.hallFault(1, "door d opens 1<^=2;");
        Check.hallFault(1, "door d opens 1>^=2;");
        Check.hallFault(1, "door d opens 1^!=2;");
        Check.hallFault(1, "door d opens 1<2^<3;");
    }

    private static void facts() {
        holds("all", true);
        holds("not all", false);
        holds("not not all", true);
        holds("[all]", true);
        holds("not [not all]", true);
        // not takes one fact alone
        holds("not 1=2 and 1=2", false);
        holds("not [1=2 and 1=2]", true);
        holds("not 1=1 or 1=1", true);
        holds("not [1=1 or 1=1]", false);
        Check.hallFault(1, "door d opens [^];");
        Check.hallFault(1, "door d opens (1^=1);");
        Check.hallFault(1, "door d opens 1=^[1];");
    }

    // ---- names

    /** A hall in which each kind's name is given once, and asked where it can be. */
    private static String named(String lock, String note, String door, String player) {
        return "lock " + lock + " wards 2 at 0;note " + note + " turns " + lock + " 1;door " + door + " opens all;player "
            + player + " plays " + note + ";";
    }

    private static void sixLetters() {
        Check.hallGood(4, named("a", "z", "m", "q"));
        LockOrchestra x = Check.hallGood(4, named("abcdef", "zyxwvu", "mnopqr", "ghijkl"));
        Check.due("letter(0, 0, 5)", 6, x.letter(0, 0, 5));
        Check.due("letter(1, 0, 5)", 21, x.letter(1, 0, 5));
        Check.due("letter(2, 0, 5)", 18, x.letter(2, 0, 5));
        Check.due("letter(3, 0, 5)", 12, x.letter(3, 0, 5));
        Check.hallFault(1, "lock abcdef^g wards 2 at 0;");
        Check.hallFault(1, "lock abcdef^ghijklmnopqrstuvwxyz wards 2 at 0;");
        Check.hallFault(1, LOCK + "note abcdef^g turns l 1;");
        Check.hallFault(1, "door abcdef^g opens all;");
        Check.hallFault(1, SIX + "player abcdef^g plays a;");
        // of six letters all count, and how many there are
        Check.hallGood(2, "lock abcdef wards 2 at 0;lock abcdeg wards 2 at 0;");
        Check.hallGood(3, "lock bbcdef wards 2 at 0;lock abcdef wards 2 at 0;lock bbcde wards 2 at 0;");
        Check.hallGood(3, "lock a wards 2 at 0;lock aa wards 2 at 0;lock aaa wards 2 at 0;");
        // letters are small ones; nothing else is one
        for (String other : new String[] {"A", "Z", "@", "[", "`", "{", "_", "\u00e4", "\u0000"}) {
            Check.hallFault(1, "lock ^" + other + " wards 2 at 0;");
            Check.hallFault(1, "lock a^" + other + " wards 2 at 0;");
        }
    }

    private static void ownWords() {
        for (String own : OWN) {
            Check.hallFault(1, "lock ^" + own + " wards 2 at 0;");
            Check.hallFault(1, LOCK + "note ^" + own + " turns l 1;");
            Check.hallFault(1, "door ^" + own + " opens all;");
            Check.hallFault(1, SIX + "player ^" + own + " plays a;");
            // what is near to one is a name
            String longer = own + "x";
            String shorter = own.substring(0, own.length() - 1);
            if (longer.length() <= 6) {
                Check.hallGood(1, "lock " + longer + " wards 2 at 0;");
            }
            if (!isOwn(shorter)) {
                Check.hallGood(1, "lock " + shorter + " wards 2 at 0;");
            }
            Check.hallGood(1, "lock " + own.substring(1) + " wards 2 at 0;");
        }
        // words of questions, and of the document, are none
        for (String word : new String[] {"first", "last", "often", "total", "most", "least", "warden", "rest", "oil", "hall"}) {
            Check.hallGood(1, "lock " + word + " wards 2 at 0;");
        }
    }

    private static void unlikeNames() {
        String[] ways = {"lock ^= wards 2 at 0;", "note ^= turns l 1;", "door ^= opens all;", "player ^= plays k;"};
        for (String ahead : ways) {
            for (String behind : ways) {
                String text = LOCK + "note k turns l 1;" + ahead.replace("^=", "same");
                Check.hallFault(3, text + behind.replace("=", "same"));
                Check.hallGood(4, text + behind.replace("^=", "samf"));
            }
        }
        // its own name is given, too, where it is asked
        Check.hallFault(3, LOCK + "note n turns ^n 1;");
    }

    private static void toldAhead() {
        Check.hallFault(3, "note n turns ^l 1;" + LOCK);
        Check.hallGood(2, LOCK + "note n turns l 1;");
        Check.hallFault(3, LOCK + "player p plays ^n;note n turns l 1;");
        Check.hallGood(3, LOCK + "note n turns l 1;player p plays n;");
        // of the hall ahead of this one nothing is told
        LockOrchestra x = Check.hallGood(2, LOCK + "note n turns l 1;");
        Check.hallFails(x, "player p plays n;", 3, 15);
        Check.hallFails(x, "note m turns l 1;", 3, 13);
        Check.hallIs(x, LOCK, 1);
    }

    private static String joined(int from, int to, String blank) {
        StringBuilder text = new StringBuilder();
        for (int k = from; k < to; k++) {
            text.append(TOKENS[k]).append(blank);
        }
        return text.toString();
    }

    private static boolean needsBlank(String left, String right) {
        return Character.isLetterOrDigit(left.charAt(0)) && Character.isLetterOrDigit(right.charAt(0));
    }

    private static void blanks() {
        Check.hallGood(6, joined(0, TOKENS.length, " "));
        Check.hallGood(6, joined(0, TOKENS.length, "\n"));
        Check.hallGood(6, "\n \n" + joined(0, TOKENS.length, " \n  \n"));
        StringBuilder bare = new StringBuilder(TOKENS[0]);
        for (int k = 1; k < TOKENS.length; k++) {
            bare.append(needsBlank(TOKENS[k - 1], TOKENS[k]) ? " " : "").append(TOKENS[k]);
        }
        Check.hallGood(6, bare.toString());
        for (int octet : new int[] {0, 9, 11, 12, 13, 31, 33, 95, 127, 128, 160, 255}) {
            for (int k = 0; k <= TOKENS.length; k++) {
                Check.hallFault(1, joined(0, k, " ") + "^" + (char) octet + " " + joined(k, TOKENS.length, " "));
            }
        }
    }

    private static void sideBySide() {
        for (int k = 1; k < TOKENS.length; k++) {
            String left = TOKENS[k - 1];
            String right = TOKENS[k];
            boolean wordAndNumber = Character.isLetter(left.charAt(0)) && Character.isDigit(right.charAt(0));
            boolean numberAndWord = Character.isDigit(left.charAt(0)) && Character.isLetter(right.charAt(0));
            if (wordAndNumber || numberAndWord) {
                Check.hallFault(1, joined(0, k - 1, " ") + left + "^" + right + " " + joined(k + 1, TOKENS.length, " "));
            }
        }
        // two words are one, two numbers are one
        Check.hallFault(1, "^lockl wards 2 at 0;");
        Check.hallFault(1, "lock l ^wardsat 2;");
        Check.hallFault(2, "lock l wards ^20 at 0;");
        Check.hallFault(3, FOUR + "note n turns a 1 ^ab 1;");
        Check.hallFault(3, SIX + "player p plays ^ab;");
    }

    // ---- faults

    private static void firstFault() {
        // of two faults the one that stands ahead, whatever their kinds
        String[] each = {"lock ^at wards 2 at 0;", "lock x wards ^6 at 0;", "note x turns ^y 1;",
            "door x opens not not not not not not ^not all;", FOUR + "^lock x wards 2 at 0;"};
        for (int k = 0; k < each.length; k++) {
            for (String behind : each) {
                Check.hallFault(k + 1, each[k] + behind.replace("^", ""));
            }
        }
        // also within one statement
        Check.hallFault(2, "lock l wards ^6 at 9 jams at;");
        Check.hallFault(3, LOCK + "note ^l turns x 0;");
        Check.hallFault(3, LOCK + "note n turns ^x 0;");
        Check.hallFault(2, LOCK + "note n turns l ^0 l 1;");
        Check.hallFault(5, FOUR + "^lock a wards 9 at 9;");
        Check.hallFault(5, FOUR + "^lock at");
        Check.hallFault(2, "rust ^101");
        Check.hallFault(2, "rust ^101x;");
        Check.hallFault(3, LOCK + "note n turns ^x1;");
        // with a fault behind them good statements count nothing
        LockOrchestra x = Check.hallGood(1, "rust 7;");
        Check.hallFails(x, "rust 8;" + FOUR + "rust", 1, 91);
        Check.due("has(0)", 0, x.has(0));
        Check.due("has(4)", 7, x.has(4));
    }

    private static void strangeBytes() {
        for (int octet = 0; octet < 256; octet++) {
            boolean blank = octet == 10 || octet == 32;
            if (!blank && octet != '^') {
                Check.hallFault(1, "^" + (char) octet + ";");
                Check.hallFault(1, "rust 1;^" + (char) octet);
            }
            if (!blank && octet != '^' && octet != ';' && (octet < '0' || octet > '9')) {
                Check.hallFault(1, "rust 1^" + (char) octet + ";");
                Check.hallFault(1, "rust 1 ^" + (char) octet + ";");
            }
        }
        Check.hallFault(1, "^;");
        Check.hallFault(1, "rust 1;^;");
        Check.hallFault(1, "rust 1^,");
        // each sign of tests where another one is asked
        for (String sign : new String[] {"(", ")", "[", "]", ",", "<", ">", "=", "+", "-", "*", "/", ";"}) {
            Check.hallFault(1, "rust ^" + sign + "5;");
            Check.hallFault(1, "door ^" + sign + "d opens all;");
            if (!sign.equals("(") && !sign.equals("[")) {
                Check.hallFault(1, "door d opens ^" + sign + "all;");
            }
            if (!sign.equals("(")) {
                Check.hallFault(1, "door d opens 1=^" + sign + "1;");
            }
            if (!sign.equals(";")) {
                Check.hallFault(1, "door d opens all ^" + sign + ";");
                Check.hallFault(1, LOCK + "note n turns l 1^" + sign + ";");
            }
        }
    }

    private static void wholeWords() {
        // each word of the statements with another letter, cut by one, lengthened by one
        for (int k = 0; k < TOKENS.length; k++) {
            String word = TOKENS[k];
            if (!isOwn(word)) {
                continue;
            }
            String ahead = joined(0, k, " ") + "^";
            String behind = " " + joined(k + 1, TOKENS.length, " ");
            Check.hallFault(1, ahead + word + "q" + behind);
            Check.hallFault(1, ahead + "q" + word + behind);
            for (int letter = 0; letter < word.length(); letter++) {
                Check.hallFault(1, ahead + word.substring(0, letter) + "q" + word.substring(letter + 1) + behind);
            }
            Check.hallFault(1, ahead + word.substring(0, word.length() - 1) + behind);
            Check.hallFault(1, ahead + word.substring(0, word.length() - 1));
            Check.hallFault(1, ahead + word.toUpperCase(java.util.Locale.ROOT) + behind);
            Check.hallFault(1, ahead + word.repeat(3) + behind);
        }
        // a number where a word is asked, however long it is
        Check.hallFault(1, "^12 l wards 2 at 0;");
        Check.hallFault(1, "lock ^12345 wards 2 at 0;");
        Check.hallFault(1, "lock l ^12345 2 at 0;");
        Check.hallFault(1, "rust 5 ^12345;");
        // a word where a number is asked
        Check.hallFault(1, "rust ^many;");
        Check.hallFault(1, "lock l wards ^abcdefghi at 0;");
        Check.hallFault(1, "lock l wards ^at at 0;");
        // a word where a sign is asked
        Check.hallFault(1, "rust 5 ^abcdefghi;");
        Check.hallFault(1, "door d opens 1 ^abcdefghi 2;");
        Check.hallFault(1, "door d opens ^abcdefghi;");
        // words of questions are none in a hall
        for (String word : new String[] {"number", "wards", "ward", "stuck", "turns"}) {
            Check.hallFault(1, LOCK + "door d opens ^" + word + "=1;");
            Check.hallFault(1, LOCK + "door d opens 1=^" + word + ";");
            Check.hallFault(1, LOCK + "door d opens at ^" + word + " 1=1;");
        }
    }

    private static boolean isOwn(String word) {
        for (String own : OWN) {
            if (own.equals(word)) {
                return true;
            }
        }
        return false;
    }

    private static void askedNames() {
        for (String own : OWN) {
            Check.hallFault(1, LOCK + "note n turns ^" + own + " 1;");
            Check.hallFault(1, LOCK + "note n turns l 1 ^" + own + " 1;");
            Check.hallFault(1, SIX + "player p plays ^" + own + ";");
            Check.hallFault(1, SIX + "player p plays a ^" + own + ";");
        }
        Check.hallFault(1, LOCK + "note n turns abcdef^g 1;");
        Check.hallFault(3, LOCK + "note n turns ^abcdef 1;");
        Check.hallFault(1, LOCK + "note n turns l 1 abcdef^g 1;");
        Check.hallFault(3, LOCK + "note n turns l 1 ^abcdef 1;");
        Check.hallFault(1, SIX + "player p plays abcdef^g;");
        Check.hallFault(1, SIX + "player p plays a abcdef^gh;");
        Check.hallFault(3, SIX + "player p plays a ^abcdef;");
        // own words of six letters are names of none, with a seventh they are too long
        Check.hallFault(1, "lock player^s wards 2 at 0;");
        Check.hallFault(1, "lock ^player wards 2 at 0;");
        Check.hallFault(1, "lock number^s wards 2 at 0;");
    }

    private static void fifthDigit() {
        Check.hallGood(1, "rust 0100;");
        Check.hallFault(1, "rust 0000^1;");
        Check.hallFault(1, "rust 0000^123456789;");
        Check.hallGood(1, "lock l wards 0005 at 0004 jams 0003;");
        Check.hallFault(1, "lock l wards 0000^5 at 4;");
        Check.hallFault(1, "lock l wards 5 at 0000^4;");
        Check.hallFault(1, "lock l wards 5 at 4 jams 0000^3;");
        Check.hallGood(2, LOCK + "note n turns l 0004;");
        Check.hallFault(1, LOCK + "note n turns l 0000^4;");
        Check.hallFault(1, "door d opens 1=1234^5;");
        Check.hallFault(1, "door d opens 1=1 and at 1234^5=1;");
        Check.hallFault(1, "rust 1234^5");
    }

    private static void endsTooSoon() {
        int ends = 0;
        for (int k = 0; k <= TOKENS.length; k++) {
            String text = joined(0, k, " ");
            if (k == 0 || TOKENS[k - 1].equals(";")) {
                Check.hallGood(ends++, text);
            } else {
                Check.hallFault(1, text + "^");
                Check.hallFault(1, text + "  \n^");
                Check.hallFault(1, text.substring(0, text.length() - 1) + "^");
            }
        }
        Check.due("statements", 7, ends);
    }

    private static void numbersThatCannotBe() {
        Check.hallFault(2, "lock l wards ^1 at 0;");
        Check.hallFault(2, "lock l wards ^0001 at 0;");
        Check.hallFault(2, "lock l wards \n ^6");
        Check.hallFault(2, "lock l wards 2 at ^2;");
        Check.hallFault(2, "lock l wards 2 at 0 jams ^2;");
        Check.hallFault(2, LOCK + "note n turns l ^0;");
        Check.hallFault(2, LOCK + "note n turns l ^5;");
        Check.hallFault(2, "rust ^101;");
        // in a test each one can be
        Check.hallGood(1, "door d opens 0<9999 and at 9999<at 0+1;");
    }

    private static void wrongNames() {
        String text = LOCK + "note n turns l 1;door d opens all;player p plays n;";
        for (String there : new String[] {"l", "n", "d", "p"}) {
            Check.hallFault(3, text + "lock ^" + there);
            Check.hallFault(3, text + "note ^" + there);
            Check.hallFault(3, text + "door ^" + there);
            Check.hallFault(3, text + "player ^" + there);
            if (!there.equals("l")) {
                Check.hallFault(3, text + "note m turns ^" + there);
            }
            if (!there.equals("n")) {
                Check.hallFault(3, text + "player q plays ^" + there);
            }
        }
        Check.hallFault(3, text + "note m turns ^m 1;");
        Check.hallFault(3, text + "note m turns ^x 1;");
        Check.hallFault(3, text + "player q plays ^q;");
        Check.hallFault(3, text + "player q plays ^x;");
        Check.hallFault(3, text + "note m turns l 1 ^l");
        Check.hallFault(3, text + "player q plays n ^n");
        Check.hallFault(3, text + "player q plays n ^x;");
        Check.hallGood(6, text + "note m turns l 1;player q plays n m;");
    }

    private static void seventhOpen() {
        String d = "door d opens ";
        Check.hallGood(1, d + "((((((1))))))=1;");
        Check.hallFault(4, d + "((((((^(1)))))))=1;");
        Check.hallGood(1, d + "1=((((((1))))));");
        Check.hallFault(4, d + "1=((((((^(1)))))));");
        Check.hallGood(1, d + "[[[[[[all]]]]]];");
        Check.hallFault(4, d + "[[[[[[^[all]]]]]]];");
        Check.hallGood(1, d + "not not not not not not all;");
        Check.hallFault(4, d + "not not not not not not ^not all;");
        Check.hallGood(1, d + "at at at at at at 1=1;");
        Check.hallFault(4, d + "at at at at at at ^at 1=1;");
        Check.hallGood(1, d + "min(min(min(min(min(max(1,2),3),4),5),6),7)=1;");
        Check.hallFault(4, d + "min(min(min(min(min(max(min^(1,2),3),4),5),6),7),8)=1;");
        Check.hallGood(1, d + "max(1,max(2,max(3,max(4,max(5,min(6,7))))))=6;");
        Check.hallFault(4, d + "max(1,max(2,max(3,max(4,max(5,min(6,min^(7,8)))))))=6;");
        // of all kinds together, each of them the seventh
        String six = d + "not[not[at(";
        Check.hallGood(1, six + "1)=1]];");
        Check.hallFault(4, six + "^(1))=1]];");
        Check.hallFault(4, six + "^at 1)=1]];");
        Check.hallFault(4, six + "min^(1,2))=1]];");
        Check.hallFault(4, six + "max^(1,2))=1]];");
        Check.hallFault(4, d + "[not[not[[^[all]]]]];");
        Check.hallFault(4, d + "[not[not[[^not all]]]];");
        Check.hallFault(4, d + "[not[not[[^at 1=1]]]];");
        Check.hallFault(4, d + "[not[not[[^(1)=1]]]];");
        // whatever stands behind it
        Check.hallFault(4, d + "((((((^(");
        Check.hallFault(4, d + "not not not not not not ^not;");
        // a 7th that can't stand there at all is no such text
        Check.hallFault(1, d + "((((((^[");
        Check.hallFault(1, d + "((((((1)))))^[)=1;");
        Check.hallFault(1, d + "[[[[[[all ^not");
    }

    private static void openUntil() {
        String d = "door d opens ";
        // side by side they are not open at once
        Check.hallGood(1, d + "(1)+(1)+(1)+(1)+(1)+(1)+(1)+(1)=8;");
        Check.hallGood(1, d + "at 1+at 1+at 1+at 1+at 1+at 1+at 1+at 1=0-8;");
        Check.hallGood(1, d + "not all or not all or not all or not all or not all or not all or not all or not all;");
        Check.hallGood(1, d + "[all]and[all]and[all]and[all]and[all]and[all]and[all]and[all];");
        Check.hallGood(1, d + "min(1,2)+min(1,2)+min(1,2)+min(1,2)+min(1,2)+min(1,2)+min(1,2)=7;");
        // at is open until its part ends, not until the sum does
        Check.hallGood(1, d + "at at at at at at 1+at at at at at at 1=1;");
        Check.hallGood(1, d + "at at at at at (1)*((((((1))))))=1;");
        Check.hallFault(4, d + "at at at at at (^(1))=1;");
        // not is open until its fact ends: both sums are in it, what and joins is not
        Check.hallGood(1, d + "not not not 1=(((1)));");
        Check.hallFault(4, d + "not not not 1=(((^(1))));");
        Check.hallFault(4, d + "not not not (((^(1))))=1;");
        Check.hallGood(1, d + "not not not not not not 1=1 and not not not not not not 1=1 or ((((((1))))))=1;");
        Check.hallFault(4, d + "not not not [all and not not ^not all];");
        Check.hallGood(1, d + "not not not [all and not not all];");
        // a bracket is open until it is shut, so behind a comma, too
        Check.hallFault(4, d + "min(1,(((((^(1)))))))=1;");
        Check.hallGood(1, d + "min(1,(((((1))))))=1;");
        // another door begins anew
        Check.hallGood(2, d + "((((((1))))))=1;door e opens ((((((1))))))=1;");
    }

    private static void oneTooMany() {
        String doors = "door a opens all;door b opens all;door c opens all;door d opens all;door e opens all;door f opens all;";
        String players = SIX + "player p plays a;player q plays a;player r plays a;player s plays a;player t plays a;";
        Check.hallGood(4, FOUR);
        Check.hallGood(7, SIX);
        Check.hallGood(6, doors);
        Check.hallGood(12, players);
        String[] full = {FOUR, SIX, doors, players};
        String[] words = {"lock", "note", "door", "player"};
        for (int k = 0; k < 4; k++) {
            Check.hallFault(5, full[k] + "^" + words[k]);
            Check.hallFault(5, full[k] + " \n^" + words[k] + " ;");
            Check.hallFault(5, full[k] + "^" + words[k] + "1");
            // a longer word is another one
            Check.hallFault(1, full[k] + "^" + words[k] + "s");
            Check.hallGood(full[k].split(";").length + 1, full[k] + "rust 1;");
        }
    }

    private static void sixtyFirst() {
        String sixty = "rust 1;".repeat(60);
        Check.hallGood(60, sixty);
        for (String there : new String[] {"rust 1;", "rust", ";", "x", "7", "\u00ff", "lock at", "door d opens not not not not not not not"}) {
            Check.hallFault(5, sixty + "^" + there);
            Check.hallFault(5, sixty + "  \n^" + there);
        }
        // the sixtieth is one still
        Check.hallFault(1, "rust 1;".repeat(59) + "^;");
        Check.hallFault(2, "rust 1;".repeat(59) + "rust ^101;");
        Check.hallFault(5, FOUR + "rust 1;".repeat(55) + "^lock e wards 2 at 0;");
        Check.hallFault(5, FOUR + "rust 1;".repeat(56) + "^lock e wards 2 at 0;");
    }
}
