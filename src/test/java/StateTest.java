/** Promises 6 and 8 to 11: what there is, locks, notes, doors, players. */
public final class StateTest {
    private static final String HALL = "lock a wards 3 at 2 jams 0;lock b wards 5 at 1;lock c wards 2 at 1 jams 1;"
        + "note n turns a 1;note m turns b 4 c 3;note o turns c 2;"
        + "door p opens at 0=2;door q opens jams>0;door r opens at 1=0 or jams=2;"
        + "player s plays n o;player t plays m n;rust 9;rust 41;";

    public static void main(String[] args) {
        counts();
        locks();
        notes();
        doors();
        players();
        testsOfDoors();
        Check.end("StateTest");
    }

    private static void counts() {
        LockOrchestra x = Check.orchestra(HALL);
        int[] due = {3, 3, 3, 2, 41, 0, 0, 1, 0, 0, 0};
        for (int k = 0; k < due.length; k++) {
            Check.due("has(" + k + ")", due[k], x.has(k));
        }
        Check.due("has(11)", -1, x.has(11));
        Check.due("has(-1)", -1, x.has(-1));
        Check.due("has(MIN)", -1, x.has(Integer.MIN_VALUE));
        // n turns a to 0, where it jams: p is shut, q opened
        Check.due("play(0)", 2, x.play(0));
        Check.due("has(5)", 1, x.has(5));
        Check.due("has(6)", 1, x.has(6));
        Check.due("has(7)", 2, x.has(7));
        Check.due("has(8)", 2, x.has(8));
        Check.due("has(10)", 1, x.has(10));
        // o turns c by two of two wards, to 1, where it jams
        Check.due("play(2)", 6, x.play(2));
        Check.due("has(6)", 5, x.has(6));
        Check.hear(x, 6, 0, 6, 7);
        Check.due("has(9)", 2, x.has(9));
    }

    private static void locks() {
        LockOrchestra x = Check.orchestra(HALL);
        int[][] due = {{3, 2, 2, 0, 0}, {5, 1, 1, -1, 0}, {2, 1, 1, 1, 0}};
        for (int l = 0; l < 3; l++) {
            for (int what = 0; what < 5; what++) {
                Check.due("lock(" + l + ", " + what + ")", due[l][what], x.lock(l, what));
            }
            Check.due("lock(" + l + ", 5)", -1, x.lock(l, 5));
            Check.due("lock(" + l + ", -1)", -1, x.lock(l, -1));
        }
        Check.due("lock(3, 0)", -1, x.lock(3, 0));
        Check.due("lock(-1, 0)", -1, x.lock(-1, 0));
        // c stands where it jams and is turned by three of two wards, to 0: not jammed
        x.play(1);
        Check.due("lock(1, 1)", 0, x.lock(1, 1));
        Check.due("lock(1, 2)", 1, x.lock(1, 2));
        Check.due("lock(2, 1)", 0, x.lock(2, 1));
        Check.due("lock(2, 4)", 0, x.lock(2, 4));
        x.play(1);
        Check.due("lock(1, 1) behind the last ward", 4, x.lock(1, 1));
        Check.due("lock(2, 1)", 1, x.lock(2, 1));
        Check.due("lock(2, 4)", 1, x.lock(2, 4));
        Check.due("lock(0, 1) stays", 2, x.lock(0, 1));
    }

    private static void notes() {
        LockOrchestra x = Check.orchestra(HALL);
        int[][] turns = {{1, 0, 0}, {0, 4, 3}, {0, 0, 2}};
        int[] who = {3, 2, 1};
        for (int n = 0; n < 3; n++) {
            Check.due("note(" + n + ", 0)", 1, x.note(n, 0));
            Check.due("note(" + n + ", 1)", who[n], x.note(n, 1));
            for (int l = 0; l < 3; l++) {
                Check.due("note(" + n + ", 1" + l + ")", turns[n][l], x.note(n, 10 + l));
            }
            for (int what : new int[] {-1, 2, 9, 13, 14, Integer.MAX_VALUE, Integer.MIN_VALUE}) {
                Check.due("note(" + n + ", " + what + ")", -1, x.note(n, what));
            }
        }
        Check.due("note(3, 0)", -1, x.note(3, 0));
        Check.due("note(-1, 0)", -1, x.note(-1, 0));
        Check.due("note(6, 0)", -1, x.note(6, 0));
        x.play(2);
        Check.due("note(0, 0) behind it", 1, x.note(0, 0));
        Check.due("note(1, 0) behind it", 0, x.note(1, 0));
        Check.due("note(2, 0) behind it", 0, x.note(2, 0));
    }

    private static void doors() {
        LockOrchestra x = Check.orchestra(HALL);
        Check.due("door(0)", 1, x.door(0));
        Check.due("door(1)", 0, x.door(1));
        Check.due("door(2)", 0, x.door(2));
        Check.due("door(3)", -1, x.door(3));
        Check.due("door(-1)", -1, x.door(-1));
        x.play(0);
        Check.due("door(0)", 0, x.door(0));
        Check.due("door(1)", 1, x.door(1));
    }

    private static void players() {
        LockOrchestra x = Check.orchestra(HALL);
        Check.due("player(0)", 5, x.player(0));
        Check.due("player(1)", 3, x.player(1));
        Check.due("player(2)", -1, x.player(2));
        Check.due("player(-1)", -1, x.player(-1));
    }

    private static void holds(String test, int due) {
        LockOrchestra x = Check.orchestra("lock a wards 3 at 2;lock b wards 5 at 4;door d opens " + test + ";");
        Check.due("whether " + test, due, x.door(0));
    }

    private static void testsOfDoors() {
        holds("all", 1);
        holds("not all", 0);
        holds("not all or all", 1);
        holds("all or all and not all", 1);
        holds("[all or all] and not all", 0);
        holds("not all and not all", 0);
        holds("not not all", 1);
        holds("1<2", 1);
        holds("2<2", 0);
        holds("2>1", 1);
        holds("2>2", 0);
        holds("2=2", 1);
        holds("at 0=2", 1);
        holds("at 1=4", 1);
        holds("at 2=0-1", 1);
        holds("at (0-1)=0-1", 1);
        holds("at 9999+1=0", 1);
        holds("at at 0=0-1", 1);
        holds("at(at 0-1)*2=8", 1);
        holds("at 0*2=4", 1);
        holds("10-3-2=5", 1);
        holds("2+3*4=14", 1);
        holds("(2+3)*4=20", 1);
        holds("100/7/2=7", 1);
        holds("7/2*2=6", 1);
        holds("7*2/2=7", 1);
        holds("(0-7)/2=0-4", 1);
        holds("7/(0-2)=0-4", 1);
        holds("(0-7)/(0-2)=3", 1);
        holds("7/0=0", 1);
        holds("7/0+1=1", 1);
        holds("9999*9999=9999*101", 1);
        holds("9999*9999/1000=1000", 1);
        holds("0-9999*9999=0-1000*1000", 1);
        holds("(0-9999)*9999+1=1-1000*1000", 1);
        holds("1000*1000+1=1000*1000", 1);
        holds("1000*1000-1<1000*1000", 1);
        holds("0-1000*1000-9=0-1000*1000", 1);
        holds("1000*1000+1000*1000-1000*1000=0", 1);
        holds("min(3,2+2)=3", 1);
        holds("max(3,2+2)=4", 1);
        holds("min(0-1,max(5,6))=0-1", 1);
        holds("jams=0", 1);
        holds("at jams=2", 1);
    }
}
