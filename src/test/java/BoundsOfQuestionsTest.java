/** Terms IV: each bound of questions and images. */
public final class BoundsOfQuestionsTest {
    // as played: a at 1, jammed; b at 4; c at 1; d at 3
    private static final String HALL = "lock a wards 3 at 0 jams 1;lock b wards 5 at 4;lock c wards 2 at 1;lock d wards 4 at 3;"
        + "note n turns a 1;note m turns b 2 d 3;note o turns c 4;";
    private static final String[] LEAVES = {"7", "number", "wards", "ward", "stuck", "jams"};

    public static void main(String[] args) {
        Sentence.of("IV", "first TEST, last TEST (the first, the last LOCK for which it holds)", BoundsOfQuestionsTest::firstAndLast);
        Sentence.of("IV", "often TEST (for how many)", BoundsOfQuestionsTest::often);
        Sentence.of("IV", "total SUM (of all together)", BoundsOfQuestionsTest::total);
        Sentence.of("IV", "most SUM, least SUM (the greatest, the least of all; 0 without LOCKS).", BoundsOfQuestionsTest::mostAndLeast);
        Sentence.of("IV", "TEST, SUM as in I,", BoundsOfQuestionsTest::asInI);
        Sentence.of("IV", "(The LOCK's number, how many WARDS it has, at which it stands, 1 if it is JAMMED, else 0;",
            BoundsOfQuestionsTest::ofTheLock);
        Sentence.of("IV", "by how many WARDS the NOTE of that number turns it, 0 of those that there are not.)",
            BoundsOfQuestionsTest::turns);
        Sentence.of("IV", "1 as in I", BoundsOfQuestionsTest::faultsOfText);
        Sentence.of("IV", "(an unknown word at its first byte;", BoundsOfQuestionsTest::unknownWords);
        Sentence.of("IV", "what stands behind it, too);", BoundsOfQuestionsTest::whatStandsBehind);
        Sentence.of("IV", "4 the 7th of ( [ not at turns that is open at once", BoundsOfQuestionsTest::seventhOpen);
        Sentence.of("IV", "(not until its FACT, at, turns until their PART ends), at it.", BoundsOfQuestionsTest::openUntil);
        Sentence.of("IV", "how many were PLAYED (two bytes, the higher first);", BoundsOfQuestionsTest::playedBytes);
        Sentence.of("IV", "for each LOCK its WARD, 1 if it is JAMMED, else 0;", BoundsOfQuestionsTest::lockBytes);
        Sentence.of("IV", "last a byte: all ahead from 11 on, c = (3 c + it) mod 251.", BoundsOfQuestionsTest::lastByte);
        Check.end("BoundsOfQuestionsTest");
    }

    private static LockOrchestra played() {
        LockOrchestra x = Check.orchestra(HALL);
        x.play(0);
        return x;
    }

    private static void asks(LockOrchestra x, String text, long due) {
        Check.due("ask() of " + text, due, Check.ask(x, text));
        Check.due("fault(0) of " + text, 0, x.fault(0));
        Check.due("fault(1) of " + text, -1, x.fault(1));
    }

    private static void fails(int fault, String marked) {
        Check.askFault(HALL, fault, marked);
    }

    private static void firstAndLast() {
        LockOrchestra x = played();
        for (int lock = 0; lock < 4; lock++) {
            asks(x, "first number=" + lock, lock);
            asks(x, "last number=" + lock, lock);
            asks(x, "first number>" + lock, lock == 3 ? -1 : lock + 1);
            asks(x, "last number<" + lock, lock - 1);
        }
        asks(x, "first all", 0);
        asks(x, "last all", 3);
        asks(x, "first ward=1", 0);
        asks(x, "last ward=1", 2);
        asks(x, "first not all", -1);
        asks(x, "last not all", -1);
        asks(new LockOrchestra(), "first all", -1);
        asks(new LockOrchestra(), "last all", -1);
    }

    private static void often() {
        LockOrchestra x = played();
        for (int many = 0; many <= 4; many++) {
            asks(x, "often number<" + many, many);
        }
        asks(x, "often ward=1", 2);
        asks(x, "often not all", 0);
        asks(x, "often all", 4);
        asks(new LockOrchestra(), "often all", 0);
    }

    private static void total() {
        LockOrchestra x = played();
        asks(x, "total 0", 0);
        asks(x, "total 1", 4);
        asks(x, "total number", 6);
        asks(x, "total 0-number", -6);
        asks(x, "total wards", 14);
        // each SUM is a million at most, all together are more
        asks(x, "total 9999*9999", 4000000);
        asks(x, "total 0-9999*9999", -4000000);
        asks(x, "total 9999*9999*(1-number)", -1000000);
        asks(new LockOrchestra(), "total 5", 0);
    }

    private static void mostAndLeast() {
        LockOrchestra x = played();
        asks(x, "most wards", 5);
        asks(x, "least wards", 2);
        // below 0, too: nothing is 0 of itself
        asks(x, "most 0-wards", -2);
        asks(x, "least 0-wards", -5);
        asks(x, "most 3", 3);
        asks(x, "least 3", 3);
        asks(x, "most 9999*9999", 1000000);
        asks(x, "least 0-9999*9999", -1000000);
        // at the first and at the last lock
        asks(x, "most 0-number", 0);
        asks(x, "least number", 0);
        asks(x, "most number", 3);
        asks(x, "least 0-number", -3);
        for (String what : new String[] {"most", "least"}) {
            asks(new LockOrchestra(), what + " 5", 0);
            asks(new LockOrchestra(), what + " 0-5", 0);
        }
        x = Check.orchestra("lock a wards 5 at 2;");
        asks(x, "most 0-ward", -2);
        asks(x, "least ward", 2);
    }

    private static void asInI() {
        LockOrchestra x = played();
        asks(x, "most 10-3-2", 5);
        asks(x, "most 1+2*3", 7);
        asks(x, "most 7/2*2", 6);
        asks(x, "most (0-7)/2", -4);
        asks(x, "most 7/(0-2)", -4);
        asks(x, "most 7/0", 0);
        asks(x, "most 1000*1000+1", 1000000);
        asks(x, "most 1000*1000+1-1", 999999);
        asks(x, "least 0-1000*1000-1", -1000000);
        asks(x, "least 0-1000*1000-1+1", -999999);
        asks(x, "most min(number,2)", 2);
        asks(x, "least max(number,1)", 1);
        asks(x, "most jams", 1);
        asks(x, "total at 1", 16);
        asks(x, "total at 4", -4);
        asks(x, "total at (0-1)", -4);
        asks(x, "total at 9999", -4);
        asks(x, "total at 3", 12);
        asks(x, "total at number-ward", 0);
        asks(x, "often all or all and not all", 4);
        asks(x, "often not 1=2 and 1=2", 0);
        asks(x, "often [all or all] and not all", 0);
        asks(x, "most 0000", 0);
        asks(x, "most 9999", 9999);
        asks(x, "\n most \n 9999\n", 9999);
        asks(x, "most(9999)", 9999);
        asks(x, "often[all]", 4);
    }

    private static void ofTheLock() {
        LockOrchestra x = played();
        int[][] due = {{0, 1, 2, 3}, {3, 5, 2, 4}, {1, 4, 1, 3}, {1, 0, 0, 0}};
        String[] words = {"number", "wards", "ward", "stuck"};
        for (int word = 0; word < 4; word++) {
            for (int lock = 0; lock < 4; lock++) {
                asks(x, "total " + words[word] + "*(1-min(1,max(number-" + lock + "," + lock + "-number)))", due[word][lock]);
            }
        }
        x.oil(0);
        asks(x, "total stuck", 0);
        asks(x, "total jams", 0);
        x = Check.orchestra("lock a wards 2 at 0 jams 1;lock b wards 2 at 0 jams 1;note n turns a 1 b 1;");
        x.play(0);
        asks(x, "total stuck", 2);
        asks(x, "total jams", 4);
    }

    private static void turns() {
        LockOrchestra x = played();
        int[] due = {1, 5, 4};
        for (int note = 0; note < 3; note++) {
            asks(x, "total turns " + note, due[note]);
        }
        for (String none : new String[] {"3", "4", "5", "6", "7", "9999", "(0-1)", "(0-9999*9999)", "(9999*9999)"}) {
            asks(x, "total turns " + none, 0);
            asks(x, "most turns " + none, 0);
        }
        asks(x, "most turns 1", 3);
        asks(x, "first turns 1=3", 3);
        asks(x, "first turns 2=4", 2);
        // with six notes the sixth is there, the seventh is not
        x = Check.orchestra("lock l wards 5 at 0;note a turns l 1;note b turns l 2;note c turns l 3;note d turns l 4;"
            + "note e turns l 1;note f turns l 3;");
        asks(x, "most turns 5", 3);
        asks(x, "most turns 6", 0);
        asks(x, "most turns (0-1)", 0);
        asks(x, "most turns turns 1", 3);
    }

    // ---- faults

    private static void faultsOfText() {
        fails(1, "^");
        fails(1, " \n^");
        fails(1, "first^");
        fails(1, "first ^");
        fails(1, "first ^;");
        fails(1, "first not^");
        fails(1, "first [all^");
        fails(1, "first [all^)");
        fails(1, "first 1^");
        fails(1, "first 1=^");
        fails(1, "first 1=1 and^");
        fails(1, "total ^");
        fails(1, "total 1+^");
        fails(1, "total (1^");
        fails(1, "total (1^]");
        fails(1, "total min^");
        fails(1, "total min(1^");
        fails(1, "total min(1^)");
        fails(1, "total min(1,^)");
        fails(1, "total min(1,2^");
        fails(1, "total min(1,2^,3)");
        fails(1, "total at^");
        fails(1, "total turns^");
        fails(1, "total turns ^)");
        fails(1, "total 1234^5");
        fails(1, "total 1+1234^56789");
        fails(1, "total 9999+9999^9");
        fails(1, "total^1");
        fails(1, "total 1^a");
        fails(1, "total turns^0");
        fails(1, "total at^0");
        fails(1, "total ^\t1");
        fails(1, "total ^\r1");
        fails(1, "^\u0000total 1");
        fails(1, "total ^\u00ff");
        // a number that can't be there is none in a question, nor is a name
        asks(played(), "most 0", 0);
        fails(1, "total ^a");
        fails(1, "first ^n=1");
        // a test where a sum is asked, a sum where a test is
        fails(1, "total ^all");
        fails(1, "total ^not all");
        fails(1, "total ^[1]");
        fails(1, "most 1^=1");
        fails(1, "least 1^<1");
        fails(1, "often 1^");
        fails(1, "often (1^=1)");
        fails(1, "last 1=1^=1");
        fails(1, "last 1<^>1");
    }

    private static void unknownWords() {
        for (String word : new String[] {"fir", "firsts", "second", "all", "lock", "lasts", "totals", "mosts", "leas", "oftener",
            "abcdefghijkl", "FIRST", "First"}) {
            fails(1, "^" + word + " all");
            fails(1, " \n^" + word);
        }
        // each letter of each word counts
        String[] known = {"^first all", "^last all", "^often all", "^total 1", "^most 1", "^least 1", "total ^number", "total ^wards",
            "total ^ward", "total ^stuck", "total ^jams", "total ^at 0", "total ^turns 0", "total ^min(1,2)", "total ^max(1,2)",
            "first ^not all", "first ^all", "first all ^and all", "first all ^or all"};
        for (String text : known) {
            for (int k = text.indexOf('^') + 1; k < text.length() && Character.isLetter(text.charAt(k)); k++) {
                fails(1, text.substring(0, k) + "q" + text.substring(k + 1));
            }
            LockOrchestra x = played();
            Check.ask(x, text.replace("^", ""));
            Check.due("fault(0) of " + text, 0, x.fault(0));
        }
        String[] unknown = {"foo", "a", "n", "lock", "note", "door", "opens", "player", "plays", "rust", "or", "and", "first",
            "total", "most", "numbers", "numbe", "warden", "war", "stucks", "jam", "abcdefghijkl", "minn", "mi", "nots", "Ward"};
        for (String word : unknown) {
            fails(1, "total ^" + word);
            fails(1, "total 1+^" + word);
            fails(1, "total at ^" + word);
            fails(1, "total turns ^" + word);
            fails(1, "first ^" + word);
            fails(1, "first not ^" + word);
        }
        fails(1, "^12 all");
        fails(1, "^12345");
        fails(1, "^(1)");
    }

    private static void whatStandsBehind() {
        for (String leaf : LEAVES) {
            asks(played(), "most " + leaf + "*0", 0);
            for (String behind : new String[] {"1", "ward", "x", ";", ")", "]", ",", "(1)", "[all]", "all", "not all", "=1", "or all",
                "first all", "\u00ff", "."}) {
                fails(1, "most " + leaf + " ^" + behind);
            }
            for (String behind : new String[] {"1", "ward", "x", ";", ")", "]", ",", "(1)", "[all]", "all", "not all", "=1",
                "first all", "\u00ff", "."}) {
                fails(1, "first " + leaf + "=1 ^" + behind);
            }
        }
        fails(1, "first all^;");
        fails(1, "first all ^all");
        fails(1, "first all^]");
        fails(1, "first all ^+1");
        fails(1, "first all ^12345");
        fails(1, "first all ^abcdefghi");
    }

    private static void seventhOpen() {
        LockOrchestra x = played();
        asks(x, "most ((((((1))))))", 1);
        fails(4, "most ((((((^(1)))))))");
        asks(x, "often [[[[[[all]]]]]]", 4);
        fails(4, "often [[[[[[^[all]]]]]]]");
        asks(x, "often not not not not not not all", 4);
        fails(4, "often not not not not not not ^not all");
        // 1, 4, and behind that -1 of what there is not
        asks(x, "most at at at at at at 0", -1);
        fails(4, "most at at at at at at ^at 0");
        asks(x, "most turns turns turns turns turns turns 0", 0);
        fails(4, "most turns turns turns turns turns turns ^turns 0");
        asks(x, "most min(min(min(min(min(max(1,2),3),4),5),6),7)", 2);
        fails(4, "most min(min(min(min(min(max(max^(1,2),3),4),5),6),7),8)");
        fails(4, "most at at at at at at ^turns 0");
        fails(4, "most turns turns turns turns turns turns ^at 0");
        fails(4, "most at turns at turns at turns ^(0)");
        fails(4, "most at turns at turns at turns min^(0,1)");
        fails(4, "first not[not[at(^turns 0)=0]]");
        asks(x, "often not[not[at 0=1]]", 4);
        fails(4, "first not[not[[[^at 0=1]]]]");
        fails(4, "first [[[[[[^(");
        fails(4, "first [[[[[[^not");
        fails(1, "most ((((((^[");
    }

    private static void openUntil() {
        LockOrchestra x = played();
        asks(x, "total turns 0+turns 0+turns 0+turns 0+turns 0+turns 0+turns 0+turns 0", 8);
        asks(x, "total at 0+at 0+at 0+at 0+at 0+at 0+at 0+at 0", 32);
        asks(x, "total (1)+(1)+(1)+(1)+(1)+(1)+(1)+(1)", 32);
        asks(x, "most turns turns turns turns turns turns 0*0+at at at at at at 0*0", 0);
        asks(x, "most turns turns turns (((1)))*0+((((((1))))))", 1);
        fails(4, "most turns turns turns (((^(1))))");
        asks(x, "often not not not not not not 1=1 and not not not not not not 1=1 or turns turns turns turns turns turns 0=0", 4);
        asks(x, "often not not not turns turns turns 0=9", 4);
        fails(4, "often not not not turns turns turns ^turns 0=9");
        fails(4, "often not not not 9=turns turns turns ^turns 0");
        asks(x, "often not not not 9=turns turns turns 0", 4);
    }

    // ---- images

    private static int[] octets(LockOrchestra x) {
        int[] octets = new int[x.image()];
        for (int k = 0; k < octets.length; k++) {
            octets[k] = x.octet(k);
        }
        Check.due("octet behind the last", -1, x.octet(octets.length));
        return octets;
    }

    private static int[] withLast(int... octets) {
        int check = 11;
        for (int k = 0; k < octets.length - 1; k++) {
            check = (3 * check + octets[k]) % 251;
        }
        octets[octets.length - 1] = check;
        return octets;
    }

    private static void playedBytes() {
        for (int many : new int[] {0, 1, 255, 256, 257, 511, 512, 9998, 9999}) {
            LockOrchestra x = new LockOrchestra();
            Check.due("on() of " + many, true, Check.on(x, withLast(many / 256, many % 256, 0)));
            Check.due("has(5)", many, x.has(5));
            int[] octets = octets(x);
            Check.due("image()", 3, octets.length);
            Check.due("octet(0) of " + many, many / 256, octets[0]);
            Check.due("octet(1) of " + many, many % 256, octets[1]);
        }
        LockOrchestra x = new LockOrchestra();
        for (int k = 0; k < 255; k++) {
            x.play(6);
        }
        Check.due("octet(1)", 255, octets(x)[1]);
        x.play(6);
        Check.due("octet(0)", 1, octets(x)[0]);
        Check.due("octet(1)", 0, octets(x)[1]);
    }

    private static void lockBytes() {
        String[] locks = {"lock a wards 2 at 1 jams 1;", "lock b wards 3 at 2;", "lock c wards 4 at 3;", "lock d wards 5 at 4 jams 4;"};
        StringBuilder text = new StringBuilder();
        for (int many = 0; many <= 4; many++) {
            int[] octets = octets(Check.orchestra(text.toString()));
            Check.due("image() of " + many + " locks", 3 + 2 * many, octets.length);
            for (int lock = 0; lock < many; lock++) {
                Check.due("the ward of " + lock, lock + 1, octets[2 + 2 * lock]);
                Check.due("whether " + lock + " is jammed", 0, octets[3 + 2 * lock]);
            }
            text.append(many < 4 ? locks[many] : "");
        }
        // turned round to where they stood they jam
        LockOrchestra x = Check.orchestra(text + "note n turns a 2;note m turns d 4;note o turns d 1;");
        x.play(0);
        Check.due("the first is jammed", 1, octets(x)[3]);
        Check.due("the last is not", 0, octets(x)[9]);
        x.play(1);
        Check.due("the last's ward", 3, octets(x)[8]);
        x.play(2);
        Check.due("the last's ward", 4, octets(x)[8]);
        Check.due("the last is jammed", 1, octets(x)[9]);
    }

    private static void lastByte() {
        int[] seen = new int[256];
        for (int many = 0; many <= 9999; many++) {
            int[] told = withLast(many / 256, many % 256, many % 5, many % 2, 0);
            // each byte that there can be once, the least and the greatest more often
            if (seen[told[4]]++ < (told[4] == 0 || told[4] >= 249 ? 5 : 1)) {
                LockOrchestra x = Check.orchestra("lock a wards 5 at 0;");
                Check.due("on() of " + many, true, Check.on(x, told));
                Check.due("the last byte of " + many, told[4], octets(x)[4]);
                told[4] = (told[4] + 1) % 256;
                Check.due("on() of one more", false, Check.on(x, told));
                told[4] = (told[4] + 254) % 256;
                Check.due("on() of one less", false, Check.on(x, told));
            }
        }
        Check.due("whether 0 and 250 were seen", true, seen[0] > 0 && seen[250] > 0);
        // the document's own numbers: 11 through two bytes of 0 is 99
        Check.due("the last byte of nothing", 99, octets(new LockOrchestra())[2]);
    }
}
