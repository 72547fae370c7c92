/** Promises 22 to 24: what is heard, the starts by it, what a door hangs on. */
public final class HeardTest {
    // ways: a counts 1, b counts 3, c counts 6
    private static final String HALL = "lock a wards 3 at 1 jams 2;lock b wards 2 at 0;lock c wards 5 at 3;"
        + "note n turns a 1;note m turns b 1 c 4;door d opens at 0=2;door e opens at 1=1;door f opens at 2=0;"
        + "door g opens jams>0;";

    public static void main(String[] args) {
        heard();
        starts();
        hangs();
        Check.end("HeardTest");
    }

    private static void heard() {
        LockOrchestra x = Check.orchestra(HALL);
        Check.due("starts(0) ahead of any", -1, x.starts(0));
        Check.due("starts(1) ahead of any", -1, x.starts(1));
        Check.due("hear of nothing", -1, Check.hear(x));
        Check.due("hear of half a row", -1, Check.hear(x, 6));
        Check.due("hear of one and a half", -1, Check.hear(x, 6, 0, 6));
        Check.due("hear of note 2", -1, Check.hear(x, 2, 0));
        Check.due("hear of note 7", -1, Check.hear(x, 6, 0, 7, 0));
        Check.due("hear of doors 16", -1, Check.hear(x, 6, 0, 6, 16));
        Check.due("has(9)", 0, x.has(9));
        Check.due("starts(0), all refused", -1, x.starts(0));
        Check.due("status(1)", 6, x.status(1));
        Check.due("the tape went", 20, x.feed(0, 0, 0, 0, 0));
        int[] twenty = new int[40];
        int[] more = new int[42];
        for (int k = 0; k < 42; k += 2) {
            more[k] = 6;
            twenty[Math.min(k, 38)] = 6;
        }
        Check.due("hear of 20 rows", 20, Check.hear(x, twenty));
        Check.due("has(9)", 20, x.has(9));
        Check.due("hear of 21 rows", -1, Check.hear(x, more));
        Check.due("has(9) stays", 20, x.has(9));
        Check.due("hear of one row", 1, Check.hear(x, 0, 15));
        Check.due("has(9)", 1, x.has(9));
        x.play(0);
        x.undo();
        Check.due("has(9) behind acts", 1, x.has(9));
    }

    private static void starts(LockOrchestra x, int many, int least, int greatest) {
        Check.due("starts(0)", many, x.starts(0));
        Check.due("starts(1)", least, x.starts(1));
        Check.due("starts(2)", greatest, x.starts(2));
        Check.due("starts(3)", -1, x.starts(3));
        Check.due("starts(-1)", -1, x.starts(-1));
    }

    private static void starts() {
        LockOrchestra x = Check.orchestra(HALL);
        // n: a gets to 2 from 1 and jams; b is 0, c not 0
        Check.hear(x, 0, 9);
        starts(x, 4, 1 + 6, 1 + 24);
        // behind it n can't be played
        Check.hear(x, 0, 9, 0, 9);
        starts(x, 0, -1, -1);
        // at first no lock is jammed, even where it jams
        Check.hear(x, 6, 1);
        starts(x, 4, 2 + 6, 2 + 24);
        Check.hear(x, 6, 7);
        starts(x, 1, 2 + 3, 2 + 3);
        // m turns b to 0 and c to 0: b was 1, c was 1; a not 2
        Check.hear(x, 1, 4);
        starts(x, 2, 3 + 6, 1 + 3 + 6);
        // then n n: a was 0
        Check.hear(x, 1, 4, 0, 4, 0, 13);
        starts(x, 1, 3 + 6, 3 + 6);
        Check.hear(x, 6, 0, 6, 2);
        starts(x, 0, -1, -1);
        // it is the same however all stands now
        Check.hear(x, 1, 4);
        x.play(0);
        x.play(1);
        starts(x, 2, 3 + 6, 1 + 3 + 6);
        x = new LockOrchestra();
        Check.hear(x, 6, 0);
        starts(x, 1, 0, 0);
        Check.due("hear of a door in an empty hall", -1, Check.hear(x, 6, 1));
        starts(x, 1, 0, 0);
        x = Check.orchestra("lock a wards 5 at 0;lock b wards 5 at 0;lock c wards 5 at 0;lock d wards 5 at 0;");
        Check.hear(x, 6, 0);
        starts(x, 625, 0, 624);
    }

    private static void hangs() {
        LockOrchestra x = Check.orchestra("lock a wards 3 at 1 jams 2;lock b wards 2 at 0;lock c wards 5 at 3;"
            + "note n turns a 1;door d opens at 0=2;door e opens at 0=1 or at 1=1;door f opens at 0=2 and at 2=4;"
            + "door g opens jams>0;door h opens all;door i opens at 0+at 1+at 2=4;");
        int[] due = {1, 1, 0, 0, 0, 7};
        for (int d = 0; d < 6; d++) {
            Check.due("hangs(" + d + ")", due[d], x.hangs(d));
        }
        Check.due("hangs(6)", -1, x.hangs(6));
        Check.due("hangs(-1)", -1, x.hangs(-1));
        // a is at 2 now and jammed: it is thought of as turned all the same, and as jammed
        x.play(0);
        int[] then = {1, 3, 4, 0, 0, 5};
        for (int d = 0; d < 6; d++) {
            Check.due("then hangs(" + d + ")", then[d], x.hangs(d));
        }
        Check.due("has(6)", 1, x.has(6));
        Check.due("lock(0, 1)", 2, x.lock(0, 1));
    }
}
