/** Promises 4, 5 and 7: the hall's text, its faults, names. */
public final class HallTest {
    private static final String LOCK = "lock l wards 3 at 0;";
    private static final String[] OWN = {"lock", "wards", "at", "jams", "note", "turns", "door", "opens", "player",
        "plays", "rust", "ward", "stuck", "number", "or", "and", "not", "all", "min", "max"};

    public static void main(String[] args) {
        goodTexts();
        faultOfText();
        faultOfWords();
        faultOfNumbers();
        faultOfNames();
        faultOfDepth();
        faultOfMany();
        faultsInTests();
        letters();
        hallBehindHall();
        nothingRemembered();
        whatAHallChanges();
        Check.end("HallTest");
    }

    private static void goodTexts() {
        LockOrchestra x = new LockOrchestra();
        Check.hallIs(x, "", 0);
        Check.hallIs(x, " \n ", 0);
        Check.hallIs(x, "rust 0;rust 100;rust 7;", 3);
        Check.due("has(4), the last counts", 7, x.has(4));
        Check.hallIs(x, "lock\nl\nwards\n0005 at 0004 jams 4 ;\n", 1);
        Check.due("lock(0, 0)", 5, x.lock(0, 0));
        Check.due("lock(0, 2)", 4, x.lock(0, 2));
        Check.due("lock(0, 3)", 4, x.lock(0, 3));
        Check.due("has(4) without", 0, x.has(4));
        Check.hallIs(x, "lock first wards 2 at 1;note total turns first 4;door last opens all;player most plays total;", 4);
        Check.due("note(0, 10)", 4, x.note(0, 10));
        StringBuilder sixty = new StringBuilder();
        for (int k = 0; k < 60; k++) {
            sixty.append("rust ").append(k).append(";");
        }
        Check.hallIs(x, sixty + " \n", 60);
        Check.due("has(4) of sixty", 59, x.has(4));
        Check.hallIs(x, LOCK + "door d opens[not(1)<2*(3-jams)or all]and min(at 0,5)=max(0,at 1)/9;", 2);
    }

    private static void faultOfText() {
        LockOrchestra x = new LockOrchestra();
        Check.hallFails(x, ";", 1, 0);
        Check.hallFails(x, LOCK + ";", 1, 20);
        Check.hallFails(x, "lock", 1, 4);
        Check.hallFails(x, "lock  ", 1, 6);
        Check.hallFails(x, "rust 5", 1, 6);
        Check.hallFails(x, "rust 5 \n", 1, 8);
        Check.hallFails(x, "lock l wards 3 at 0 ;  lock", 1, 27);
        Check.hallFails(x, "rust 5,", 1, 6);
        Check.hallFails(x, "rust\t5;", 1, 4);
        Check.hallFails(x, "Lock l wards 3 at 0;", 1, 0);
        Check.hallFails(x, "lock L wards 3 at 0;", 1, 5);
        Check.hallFails(x, "lock \u00e9 wards 3 at 0;", 1, 5);
        Check.hallFails(x, LOCK + "note n turns", 1, 32);
        Check.hallFails(x, LOCK + "note n turns l;", 1, 34);
        Check.hallFails(x, LOCK + "note n turns l 1 2;", 1, 37);
        Check.hallFails(x, LOCK + "note n turns l 1;player p plays;", 1, 51);
        Check.hallFails(x, "lock l wards 3 at 0 jams;", 1, 24);
    }

    private static void faultOfWords() {
        LockOrchestra x = new LockOrchestra();
        Check.hallFails(x, "lock l wardz 3 at 0;", 1, 7);
        Check.hallFails(x, "lock l ward 3 at 0;", 1, 7);
        Check.hallFails(x, "lock l wardss 3 at 0;", 1, 7);
        Check.hallFails(x, "lock l war", 1, 7);
        Check.hallFails(x, "locks l wards 3 at 0;", 1, 0);
        Check.hallFails(x, "lock l wards 3 at 0 jam 1;", 1, 20);
        Check.hallFails(x, "lock l wards 3 at 0 jamsjams 1;", 1, 20);
        Check.hallFails(x, "first all;", 1, 0);
        Check.hallFails(x, "lock 1 wards 3 at 0;", 1, 5);
        Check.hallFails(x, "lock l 3 at 0;", 1, 7);
        for (String own : OWN) {
            x = new LockOrchestra();
            Check.hallFails(x, "lock " + own + " wards 3 at 0;", 1, 5);
            Check.hallFails(x, LOCK + "note n turns " + own + " 1;", 1, 33);
        }
        Check.hallFails(x, LOCK + "note n turns l 1 jams", 1, 37);
        Check.hallFails(x, "lock players wards 3 at 0;", 1, 11);
        Check.hallFails(x, "lock abcdefgh wards 3 at 0;", 1, 11);
        Check.hallFails(x, LOCK + "note n turns abcdefgh 1;", 1, 39);
        Check.hallFails(x, LOCK + "note n turns l 1 abcdefg", 1, 43);
        // words and numbers side by side need a blank
        Check.hallFails(x, "lock l wards3 at 0;", 1, 12);
        Check.hallFails(x, "lock l wards 3at 0;", 1, 14);
        Check.hallFails(x, "lock l wards 3 at0;", 1, 17);
        Check.hallFails(x, "lock l wards 3 at 0jams 1;", 1, 19);
        Check.hallFails(x, LOCK + "note n turns l1;", 1, 34);
        Check.hallFails(x, LOCK + "door d opens at0=1;", 1, 35);
        Check.hallFails(x, LOCK + "door d opens 1=1and all;", 1, 36);
    }

    private static void faultOfNumbers() {
        LockOrchestra x = new LockOrchestra();
        Check.hallFails(x, "lock l wards 1 at 0;", 2, 13);
        Check.hallFails(x, "lock l wards 6 at 0;", 2, 13);
        Check.hallFails(x, "lock l wards 9999", 2, 13);
        Check.hallFails(x, "lock l wards 00003 at 0;", 1, 17);
        Check.hallFails(x, "lock l wards 12345678 at 0;", 1, 17);
        Check.hallFails(x, "lock l wards 3 at 3;", 2, 18);
        Check.hallFails(x, "lock l wards 3 at 2 jams 3;", 2, 25);
        Check.hallFails(x, LOCK + "note n turns l 0;", 2, 35);
        Check.hallFails(x, LOCK + "note n turns l 5;", 2, 35);
        Check.hallFails(x, "rust 101;", 2, 5);
        Check.hallFails(x, "rust 10000;", 1, 9);
        Check.hallFails(x, LOCK + "door d opens 00001=1;", 1, 37);
        Check.hallIs(x, LOCK + "door d opens 9999=9999-0000;", 2);
        Check.hallIs(x, LOCK + "note n turns l 4;rust 100;", 3);
    }

    private static void faultOfNames() {
        LockOrchestra x = new LockOrchestra();
        String two = LOCK + "note n turns l 1;";
        Check.hallFails(x, LOCK + "lock l wards 3 at 0;", 3, 25);
        Check.hallFails(x, LOCK + "note l turns l 1;", 3, 25);
        Check.hallFails(x, two + "door n opens all;", 3, 42);
        Check.hallFails(x, two + "player l plays n;", 3, 44);
        Check.hallFails(x, two + "door d opens all;player d plays n;", 3, 61);
        Check.hallFails(x, "note n turns l 1;", 3, 13);
        Check.hallFails(x, LOCK + "note n turns n 1;", 3, 33);
        Check.hallFails(x, two + "note m turns n 1;", 3, 50);
        Check.hallFails(x, two + "player p plays l;", 3, 52);
        Check.hallFails(x, two + "player p plays p;", 3, 52);
        Check.hallFails(x, two + "player p plays n n;", 3, 54);
        Check.hallFails(x, two + "player p plays n m;note m turns l 1;", 3, 54);
        Check.hallFails(x, LOCK + "note n turns l 1 l 2;", 3, 37);
        Check.hallFails(x, LOCK + "note n turns l 1 x 2;", 3, 37);
        Check.hallFails(x, LOCK + "note n turns x1;", 3, 33);
        Check.hallFails(x, LOCK + "note n turns lx 1;", 3, 33);
        // behind as many as can be one more is told already
        String four = "lock a wards 2 at 0;lock b wards 2 at 0;lock c wards 2 at 0;lock d wards 2 at 0;";
        Check.hallFails(x, four + "note n turns a 1 b 1 c 1 d 1 a 1;", 3, 109);
        String six = LOCK + "note a turns l 1;note b turns l 1;note c turns l 1;note d turns l 1;note e turns l 1;note f turns l 1;";
        Check.hallFails(x, six + "player p plays a b c d e f b;", 3, six.length() + 27);
    }

    private static void faultOfDepth() {
        LockOrchestra x = new LockOrchestra();
        String d = "door d opens ";
        Check.hallIs(x, d + "not not not not not not all;", 1);
        Check.hallFails(x, d + "not not not not not not not all;", 4, 37);
        Check.hallFails(x, d + "not not not not not not not;", 4, 37);
        Check.hallIs(x, d + "[[[[[[all]]]]]];", 1);
        Check.hallFails(x, d + "[[[[[[[all]]]]]]];", 4, 19);
        Check.hallIs(x, d + "((((((1))))))=1;", 1);
        Check.hallFails(x, d + "(((((((1)))))))=1;", 4, 19);
        Check.hallIs(x, d + "at at at at at at 1=1;", 1);
        Check.hallFails(x, d + "at at at at at at at 1=1;", 4, 31);
        Check.hallFails(x, d + "not[(at(min(at 1,2)))=1];", 4, 25);
        Check.hallIs(x, d + "not[(at(min(1,2)))=1];", 1);
        Check.hallIs(x, d + "not[(at(max(1,2)))=1]and not[(at(max(1,2)))=1];", 1);
        Check.hallIs(x, d + "not not not not not at 1=1;", 1);
        Check.hallFails(x, d + "not not not not not not at 1=1;", 4, 37);
        Check.hallFails(x, d + "not not not not not not min(1,2)=1;", 4, 40);
        Check.hallFails(x, d + "not not not not not not 1=1 and not (;", 1, 50);
        Check.hallFails(x, d + "[[[[[[not", 4, 19);
        Check.hallIs(x, d + "min(min(min(min(min(min(1,2),2),2),2),2),2)=1;", 1);
        Check.hallIs(x, d + "max(1,max(1,max(1,max(1,max(1,max(1,2))))))=2;", 1);
        Check.hallFails(x, d + "min(min(min(min(min(min(min(1,2),2),2),2),2),2),2)=1;", 4, 40);
        Check.hallFails(x, d + "max(1,max(1,max(1,max(1,max(1,max(1,max(1,2)))))))=2;", 4, 52);
        // what has ended is open no more
        Check.hallIs(x, d + "at 1+at 1+at 1+at 1+at 1+at 1+at 1+at 1=1 and (1)+(1)+(1)+(1)+(1)+(1)+(1)=7;", 1);
    }

    private static void faultOfMany() {
        LockOrchestra x = new LockOrchestra();
        String locks = "lock a wards 2 at 0;lock b wards 2 at 0;lock c wards 2 at 0;lock d wards 2 at 0;";
        Check.hallIs(x, locks, 4);
        Check.hallFails(x, locks + " lock", 5, 81);
        Check.hallFails(x, locks + "lock a wards 2 at 0;", 5, 80);
        String notes = "lock l wards 3 at 0;note a turns l 1;note b turns l 1;note c turns l 1;note d turns l 1;"
            + "note e turns l 1;note f turns l 1;";
        Check.hallIs(x, notes, 7);
        Check.hallFails(x, notes + "\nnote ;", 5, notes.length() + 1);
        String doors = "door a opens all;door b opens all;door c opens all;door d opens all;door e opens all;door f opens all;";
        Check.hallIs(x, doors, 6);
        Check.hallFails(x, doors + "door g opens all;", 5, doors.length());
        String players = LOCK + "note n turns l 1;player a plays n;player b plays n;player c plays n;player d plays n;"
            + "player e plays n;";
        Check.hallIs(x, players, 7);
        Check.hallFails(x, players + "player", 5, players.length());
        StringBuilder sixty = new StringBuilder();
        for (int k = 0; k < 60; k++) {
            sixty.append("rust 1;");
        }
        Check.hallFails(x, sixty + " rust 1;", 5, 421);
        Check.hallFails(x, sixty + ";", 5, 420);
        Check.hallFails(x, sixty + " \n\u00ff", 5, 422);
        Check.hallFails(x, sixty.substring(0, 413) + "rust 1", 1, 419);
    }

    private static void faultsInTests() {
        LockOrchestra x = new LockOrchestra();
        String d = "door d opens ";
        Check.hallFails(x, d + ";", 1, 13);
        Check.hallFails(x, d + "1;", 1, 14);
        Check.hallFails(x, d + "1=;", 1, 15);
        Check.hallFails(x, d + "1=1=1;", 1, 16);
        Check.hallFails(x, d + "1<=1;", 1, 15);
        Check.hallFails(x, d + "1=-1;", 1, 15);
        Check.hallFails(x, d + "(1=1);", 1, 15);
        Check.hallFails(x, d + "[1]=1;", 1, 15);
        Check.hallFails(x, d + "[all;", 1, 17);
        Check.hallFails(x, d + "[all);", 1, 17);
        Check.hallFails(x, d + "(1;", 1, 15);
        Check.hallFails(x, d + "all=1;", 1, 16);
        Check.hallFails(x, d + "all all;", 1, 17);
        Check.hallFails(x, d + "all or;", 1, 19);
        Check.hallFails(x, d + "all and or all;", 1, 21);
        Check.hallFails(x, d + "not;", 1, 16);
        Check.hallFails(x, d + "min 1,2)=1;", 1, 17);
        Check.hallFails(x, d + "min(1)=1;", 1, 18);
        Check.hallFails(x, d + "max(1,2,3)=1;", 1, 20);
        Check.hallFails(x, d + "min=1;", 1, 16);
        Check.hallFails(x, d + "1+all=1;", 1, 15);
        Check.hallFails(x, d + "at all=1;", 1, 16);
        Check.hallFails(x, d + "at=1;", 1, 15);
        Check.hallFails(x, d + "at 1 2=1;", 1, 18);
        for (String word : new String[] {"ward", "wards", "stuck", "number", "turns", "foo", "abcdefghij", "or", "l"}) {
            Check.hallFails(x, d + "1=" + word + ";", 1, 15);
        }
        Check.hallFails(x, d + "jams=0 nor all;", 1, 20);
        Check.hallFails(x, d + "1=1]", 1, 16);
        Check.hallFails(x, d + "1=1", 1, 16);
    }

    private static void letters() {
        LockOrchestra x = Check.orchestra("lock azbycx wards 2 at 0;note do turns azbycx 1;door q opens all;player me plays do;");
        int[] letters = {1, 26, 2, 25, 3, 24};
        for (int k = 0; k < 6; k++) {
            Check.due("letter(0, 0, " + k + ")", letters[k], x.letter(0, 0, k));
        }
        Check.due("letter(1, 0, 0)", 4, x.letter(1, 0, 0));
        Check.due("letter(1, 0, 1)", 15, x.letter(1, 0, 1));
        Check.due("letter(1, 0, 2)", 0, x.letter(1, 0, 2));
        Check.due("letter(1, 0, 5)", 0, x.letter(1, 0, 5));
        Check.due("letter(2, 0, 0)", 17, x.letter(2, 0, 0));
        Check.due("letter(3, 0, 1)", 5, x.letter(3, 0, 1));
        Check.due("letter(0, 0, 6)", -1, x.letter(0, 0, 6));
        LockOrchestra y = Check.orchestra("lock a wards 2 at 0;lock b wards 2 at 0;lock c wards 2 at 0;lock d wards 2 at 0;"
            + "note e turns a 1;note f turns a 1;door g opens all;door h opens all;door i opens all;player j plays e;"
            + "player k plays e;");
        int[] many = {4, 2, 3, 2};
        int letter = 1;
        for (int kind = 0; kind < 4; kind++) {
            for (int which = 0; which < many[kind]; which++) {
                Check.due("letter(" + kind + ", " + which + ", 0)", letter++, y.letter(kind, which, 0));
            }
        }
        Check.due("letter(0, 0, -1)", -1, x.letter(0, 0, -1));
        Check.due("letter(0, 1, 0)", -1, x.letter(0, 1, 0));
        Check.due("letter(0, -1, 0)", -1, x.letter(0, -1, 0));
        Check.due("letter(4, 0, 0)", -1, x.letter(4, 0, 0));
        Check.due("letter(-1, 0, 0)", -1, x.letter(-1, 0, 0));
    }

    /** Nothing of an earlier hall is left in a later one, with a fault between them or not. */
    private static void hallBehindHall() {
        LockOrchestra x = new LockOrchestra();
        String steps = "1" + "+1".repeat(700);
        for (int k = 0; k < 3; k++) {
            Check.hallIs(x, "lock a wards 3 at 2 jams 1;lock b wards 4 at 3;note n turns a 4 b 2;note m turns b 1;"
                + "door d opens at 0=2;door e opens all;player p plays n m;rust 50;", 8);
            Check.due("has(7)", 3, x.has(7));
            Check.due("has(4)", 50, x.has(4));
            Check.hallIs(x, "lock a wards 2 at 1;note n turns a 1;door d opens at 0=0;", 3);
            Check.due("has(0)", 1, x.has(0));
            Check.due("has(1)", 1, x.has(1));
            Check.due("has(2)", 1, x.has(2));
            Check.due("has(3)", 0, x.has(3));
            Check.due("has(4)", 0, x.has(4));
            Check.due("has(7)", 0, x.has(7));
            Check.due("note(0, 1)", 0, x.note(0, 1));
            Check.due("states()", 2, x.states());
            Check.due("lock(0, 3)", -1, x.lock(0, 3));
            Check.hallFails(x, "lock c wards 5 at 4;lock d wards 5 at 4;note n turns d 4;door d", 3, 62);
            Check.due("play(0)", 1, x.play(0));
            Check.hallIs(x, "lock c wards 5 at 4;lock d wards 5 at 4;note n turns d 4;", 3);
            Check.due("note(0, 10)", 0, x.note(0, 10));
            Check.due("note(0, 11)", 4, x.note(0, 11));
            Check.due("states()", 5, x.states());
            Check.hallIs(x, "door z opens " + steps + "=701;", 1);
            Check.due("has(7)", 1, x.has(7));
            Check.hallIs(x, "lock l wards 2 at 0;note n turns l 1;player p plays n;player q plays n;", 4);
            Check.due("player(0)", 1, x.player(0));
            Check.due("note(0, 1)", 3, x.note(0, 1));
        }
    }

    /** What was worked out for an earlier hall does not count in a later one. */
    private static void nothingRemembered() {
        LockOrchestra x = new LockOrchestra();
        for (String test : new String[] {"all", "not all", "not all", "all", "all", "not all"}) {
            Check.hallIs(x, "lock a wards 2 at 0;door d opens " + test + ";", 2);
            Check.due("has(7), " + test, test.equals("all") ? 1 : 0, x.has(7));
        }
        String locks = "lock a wards 2 at 0;lock b wards 2 at 0 jams 1;note n turns b 1;note m turns a 1";
        for (String more : new String[] {" b 1;", ";", ";", " b 1;", " b 1;", ";"}) {
            Check.hallIs(x, locks + more, 4);
            x.play(0);
            Check.due("note(1, 0), turning a" + more, more.equals(";") ? 1 : 0, x.note(1, 0));
        }
    }

    private static void whatAHallChanges() {
        String text = "lock a wards 3 at 1;note n turns a 1;door d opens at 0=2;player p plays n;rust 100;";
        LockOrchestra x = Check.orchestra(text);
        Check.due("fault(2)", -1, x.fault(2));
        Check.due("fault(-1)", -1, x.fault(-1));
        x.seed(77);
        x.play(0);
        Check.hear(x, 6, 1);
        Check.judge(x, 0);
        Check.slip(x, 1, 6, 0);
        x.image();
        // with a fault all stays, but the tape goes
        Check.hallFails(x, "rust 5; nonsense", 1, 8);
        Check.due("feed behind a fault", 20, x.feed(0, 0, 0, 0, 0));
        Check.due("status(1)", 1, x.status(1));
        Check.due("has(4) stays", 100, x.has(4));
        Check.due("has(5) stays", 1, x.has(5));
        Check.due("has(8) stays", 1, x.has(8));
        Check.due("has(9) stays", 1, x.has(9));
        Check.due("has(10) stays", 1, x.has(10));
        Check.due("judged(0) stays", 0, x.judged(0));
        Check.due("lock(0, 1) stays", 2, x.lock(0, 1));
        // without one all is as at first
        Check.hallIs(x, text, 5);
        Check.due("feed behind it", 20, x.feed(0, 0, 0, 0, 0));
        Check.due("lock(0, 1)", 1, x.lock(0, 1));
        for (int what : new int[] {5, 6, 7, 8, 9, 10}) {
            Check.due("has(" + what + ") as at first", 0, x.has(what));
        }
        Check.due("judged(0) of this hall", -1, x.judged(0));
        Check.due("slipped(0) of this hall", -1, x.slipped(0));
        Check.due("starts(0) of this hall", -1, x.starts(0));
        Check.due("octet(1) of the latest image", 1, x.octet(1));
        Check.due("undo()", false, x.undo());
        Check.due("status(1) stays", 1, x.status(1));
        Check.hallIs(x, "", 0);
        for (int what = 0; what <= 10; what++) {
            Check.due("has(" + what + ") of an empty hall", 0, x.has(what));
        }
        Check.due("door(0) of an empty hall", -1, x.door(0));
    }
}
