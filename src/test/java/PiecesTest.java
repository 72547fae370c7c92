/** Promises 13 to 21: judged, shortest, back, states, forbidden, shared and slipped pieces. */
public final class PiecesTest {
    // top jams at 3; do turns it by one, mi by two, re turns low
    private static final String HALL = "lock top wards 4 at 0 jams 3;lock low wards 2 at 0;"
        + "note do turns top 1;note re turns low 1;note mi turns top 2;"
        + "door a opens at 0=2;door b opens at 1=1;door c opens jams=1;"
        + "player x plays do re;player y plays re mi;player z plays mi;";
    private static final int[] LONGEST = {6, 6, 6, 6, 6, 6, 6, 6, 6, 6, 6, 6, 6, 6, 6, 6, 6, 6, 6, 6};
    private static final int[] TOO_LONG = {6, 6, 6, 6, 6, 6, 6, 6, 6, 6, 6, 6, 6, 6, 6, 6, 6, 6, 6, 6, 6};

    public static void main(String[] args) {
        judged();
        shortest();
        firstOfLikeOnes();
        back();
        states();
        forbidden();
        shared();
        slipped();
        Check.end("PiecesTest");
    }

    private static void judged(LockOrchestra x, int doors, int jams, int opened) {
        Check.due("judged(0)", doors, x.judged(0));
        Check.due("judged(1)", jams, x.judged(1));
        Check.due("judged(2)", opened, x.judged(2));
        Check.due("judged(3)", -1, x.judged(3));
        Check.due("judged(-1)", -1, x.judged(-1));
    }

    private static void judged() {
        LockOrchestra x = Check.orchestra(HALL);
        Check.due("judged(0) ahead of any", -1, x.judged(0));
        Check.due("judge do do re do mi re", 4, Check.judge(x, 0, 0, 1, 0, 2, 1));
        judged(x, 6, 1, 3);
        Check.due("nothing was played", 0, x.has(5));
        Check.due("lock(0, 1) stays", 0, x.lock(0, 1));
        Check.due("judge re re re", 3, Check.judge(x, 1, 1, 1));
        judged(x, 2, 0, 2);
        Check.due("judge of no length", 0, Check.judge(x));
        judged(x, 0, 0, 0);
        Check.due("judge mi", 1, Check.judge(x, 2));
        Check.due("judge 3", -1, Check.judge(x, 3));
        Check.due("judge 5", -1, Check.judge(x, 0, 5));
        Check.due("judge 7", -1, Check.judge(x, 7));
        Check.due("judge 255", -1, Check.judge(x, 255));
        Check.due("status(1)", 4, x.status(1));
        judged(x, 1, 0, 1);
        Check.due("judge of 20 rests", 20, Check.judge(x, LONGEST));
        Check.due("judge of 21 rests", -1, Check.judge(x, TOO_LONG));
        Check.due("status(1)", 5, x.status(1));
        Check.due("the tape went", 20, x.feed(0, 0, 0, 0, 0));
        x.end(0);
        x.play(0);
        x.play(2);
        Check.due("judge do, from now on", 0, Check.judge(x, 0));
        judged(x, 4, 1, 0);
        Check.due("judge rest re, from now on", 2, Check.judge(x, 6, 1));
        judged(x, 6, 1, 1);
        x.undo();
        judged(x, 6, 1, 1);
    }

    private static void way(LockOrchestra x, int doors, int... due) {
        Check.due("shortest(" + doors + ", -1)", due.length, x.shortest(doors, -1));
        for (int k = 0; k < due.length; k++) {
            Check.due("shortest(" + doors + ", " + k + ")", due[k], x.shortest(doors, k));
        }
        Check.due("shortest(" + doors + ", behind)", -1, x.shortest(doors, due.length));
        Check.due("shortest(" + doors + ", -2)", -1, x.shortest(doors, -2));
    }

    private static void shortest() {
        LockOrchestra x = Check.orchestra(HALL);
        way(x, 0);
        way(x, 1, 2);
        way(x, 2, 1);
        way(x, 3, 1, 2);
        way(x, 4, 0, 2);
        way(x, 6, 0, 1, 2);
        for (int doors : new int[] {5, 7, 8, -1, Integer.MIN_VALUE, Integer.MAX_VALUE}) {
            Check.due("shortest(" + doors + ", -1)", -1, x.shortest(doors, -1));
            Check.due("shortest(" + doors + ", 0)", -1, x.shortest(doors, 0));
        }
        Check.due("nothing was played", 0, x.has(5));
        x.play(0);
        way(x, 4, 2);
        x.play(2);
        way(x, 4);
        way(x, 6, 1);
        Check.due("shortest(0, -1), jammed", -1, x.shortest(0, -1));
        Check.due("status(1)", 0, x.status(1));
    }

    private static void firstOfLikeOnes() {
        // in any order they would get there, and by q for n
        LockOrchestra x = Check.orchestra("lock a wards 5 at 0;lock b wards 5 at 0;note o turns b 1;note n turns a 1;"
            + "note q turns a 1;door d opens at 0=1 and at 1=1;door e opens at 0=2 and at 1=1;");
        way(x, 1, 0, 1);
        way(x, 2, 0, 1, 1);
        // of two states in which just that door is open the one by the first note
        x = Check.orchestra("lock a wards 5 at 0;note n turns a 2;note m turns a 1;door d opens at 0>0;");
        way(x, 1, 0);
        // a piece of more than twenty
        x = Check.orchestra("lock a wards 2 at 0;lock b wards 3 at 0;lock c wards 5 at 0;note n turns a 1 b 1 c 1;"
            + "door d opens at 0=1 and at 1=2 and at 2=4;");
        Check.due("shortest(1, -1)", 29, x.shortest(1, -1));
        Check.due("shortest(1, 28)", 0, x.shortest(1, 28));
        Check.due("shortest(1, 29)", -1, x.shortest(1, 29));
    }

    private static void back() {
        LockOrchestra x = Check.orchestra(HALL);
        Check.due("back(-1)", 0, x.back(-1));
        Check.due("back(0)", -1, x.back(0));
        x.play(1);
        x.play(2);
        Check.due("back(-1)", 2, x.back(-1));
        Check.due("back(0)", 1, x.back(0));
        Check.due("back(1)", 2, x.back(1));
        Check.due("back(2)", -1, x.back(2));
        Check.due("back(-2)", -1, x.back(-2));
        x.play(0);
        Check.due("back(-1), jammed", -1, x.back(-1));
        Check.due("back(0), jammed", -1, x.back(0));
        x.oil(0);
        Check.due("back(-1), oiled", 2, x.back(-1));
        Check.due("back(0), oiled", 0, x.back(0));
        // it stood where it jams: turned there again it is jammed
        x = Check.orchestra("lock a wards 2 at 0 jams 0;note n turns a 1;");
        Check.due("back(-1)", 0, x.back(-1));
        x.play(0);
        Check.due("back(-1)", -1, x.back(-1));
        // where it was told, not where an image was turned on
        x = Check.orchestra("lock a wards 3 at 1;note n turns a 1;");
        x.play(0);
        Check.due("back(-1)", 2, x.back(-1));
    }

    private static void states() {
        LockOrchestra x = Check.orchestra(HALL);
        Check.due("states()", 8, x.states());
        x.play(0);
        Check.due("states()", 8, x.states());
        x.play(2);
        Check.due("states(), jammed", 2, x.states());
        x = Check.orchestra(HALL);
        Check.due("shortest(1, -1)", 1, x.shortest(1, -1));
        Check.due("states() behind another search", 8, x.states());
        Check.due("states() of no notes", 1, Check.orchestra("lock a wards 3 at 1;").states());
        StringBuilder b = new StringBuilder();
        for (String name : new String[] {"a", "b", "c", "d"}) {
            b.append("lock ").append(name).append(" wards 5 at 4 jams 4;note n").append(name).append(" turns ").append(name).append(" 1;");
        }
        Check.due("states(), as many as can be", 1296, Check.orchestra(b.toString()).states());
        String near = b.toString().replace("at 4", "at 3");
        Check.due("states(), each lock as told or jammed", 16, Check.orchestra(near).states());
    }

    private static void forbidden() {
        LockOrchestra x = Check.orchestra(HALL);
        Check.due("forbid(1): do and mi both get there", 5, x.forbid(1));
        Check.due("forbid(2)", 2, x.forbid(2));
        Check.due("forbid(3)", 2, x.forbid(3));
        Check.due("forbid(4)", 1, x.forbid(4));
        Check.due("forbid(5): never open at once", 0, x.forbid(5));
        Check.due("forbid(7)", 0, x.forbid(7));
        Check.due("forbid(6): do or re, the least bits", 1, x.forbid(6));
        Check.due("forbid(0)", -1, x.forbid(0));
        Check.due("forbid(8)", -1, x.forbid(8));
        Check.due("forbid(-1)", -1, x.forbid(-1));
        x.play(1);
        Check.due("forbid(2), open now", -1, x.forbid(2));
        Check.due("forbid(3), one of them open now", 5, x.forbid(3));
        Check.due("nothing is refused", 0, x.status(1));
        // one note of higher bits is fewer than two of lower ones
        x = Check.orchestra("lock a wards 3 at 0;lock b wards 2 at 0;note n turns a 1;note m turns a 2;note o turns b 1;"
            + "door d opens at 0>0 and at 1=1;");
        Check.due("forbid(1): o, not n and m", 4, x.forbid(1));
        // each note opens it by itself
        x = Check.orchestra("lock a wards 5 at 0;note n turns a 1;note m turns a 2;note o turns a 3;note p turns a 4;"
            + "note q turns a 1;note r turns a 2;door d opens at 0>0;");
        Check.due("forbid(1): all six", 63, x.forbid(1));
        // all of them open, others may be, too
        x = Check.orchestra("lock a wards 2 at 0;note n turns a 1;door d opens at 0=1;door e opens all;");
        Check.due("forbid(1) with another one open", 1, x.forbid(1));
    }

    private static void shared() {
        LockOrchestra x = Check.orchestra(HALL);
        Check.due("share of no length", 0, Check.share(x));
        Check.due("share of rests", 0, Check.share(x, LONGEST));
        Check.due("share of 21", -1, Check.share(x, TOO_LONG));
        Check.due("share do", 1, Check.share(x, 0));
        Check.due("share re: one of two, the least bits", 1, Check.share(x, 1));
        Check.due("share mi", 2, Check.share(x, 2));
        Check.due("share do re: not one alone", 3, Check.share(x, 0, 1));
        Check.due("share do rest re", 1, Check.share(x, 0, 6, 1));
        Check.due("share re re", 3, Check.share(x, 1, 1));
        Check.due("share re re re", 3, Check.share(x, 1, 1, 1));
        Check.due("share do do", -1, Check.share(x, 0, 0));
        Check.due("share do rest do", 1, Check.share(x, 0, 6, 0));
        Check.due("share mi mi", 6, Check.share(x, 2, 2));
        Check.due("share do re mi: x y z", 7, Check.share(x, 0, 1, 2));
        Check.due("share do re rest mi: x y", 3, Check.share(x, 0, 1, 6, 2));
        Check.due("share do mi do mi", 3, Check.share(x, 0, 2, 0, 2));
        Check.due("nothing is refused but one", 1, x.status(1));
        Check.due("share 4", -1, Check.share(x, 4));
        Check.due("status(1)", 2, x.status(1));
        Check.due("the tape went", 20, x.feed(0, 0, 0, 0, 0));
        x = Check.orchestra("lock a wards 2 at 0;note n turns a 1;note m turns a 1;note o turns a 1;note p turns a 1;"
            + "note q turns a 1;player s plays n;player t plays m;player u plays o;player v plays p;player w plays q;");
        Check.due("share among all five", 31, Check.share(x, 4, 3, 2, 1, 0));
        x = Check.orchestra("lock a wards 2 at 0;note n turns a 1;note m turns a 1;player p plays n;");
        Check.due("share of a note that nobody has", -1, Check.share(x, 1));
        Check.due("status(1)", 0, x.status(1));
    }

    private static void slipped() {
        LockOrchestra x = Check.orchestra(HALL);
        Check.due("slipped(0) ahead of any", -1, x.slipped(0));
        // with do or a rest for re, with re for the rest
        Check.due("slip(0) of re rest", 3, Check.slip(x, 0, 1, 6));
        Check.due("slipped(0)", 0, x.slipped(0));
        Check.due("slipped(1)", 0, x.slipped(1));
        Check.due("slipped(2)", -1, x.slipped(2));
        Check.due("slipped(-1)", -1, x.slipped(-1));
        Check.due("slip(3) of re rest", 1, Check.slip(x, 3, 1, 6));
        Check.due("slipped(0)", 1, x.slipped(0));
        Check.due("slipped(1)", 2, x.slipped(1));
        // re do re: with a rest for either re, or re for do
        Check.due("slip(2) of re do re", 3, Check.slip(x, 2, 1, 0, 1));
        Check.due("slipped(0)", 0, x.slipped(0));
        Check.due("slipped(1)", 6, x.slipped(1));
        Check.due("slip(4) of do do: do mi", 2, Check.slip(x, 4, 0, 0));
        Check.due("slipped(0)", 0, x.slipped(0));
        Check.due("slipped(1)", 2, x.slipped(1));
        Check.due("slip(5) of do do do do: none, all must be played", 0, Check.slip(x, 5, 0, 0, 0, 0));
        Check.due("slipped(0) of none", -1, x.slipped(0));
        Check.due("slipped(1) of none", -1, x.slipped(1));
        Check.due("slip(0) of no length", 0, Check.slip(x, 0));
        Check.due("slip(0) of do: re opens b, mi opens a, a rest nothing", 1, Check.slip(x, 0, 0));
        Check.due("slipped(1)", 6, x.slipped(1));
        Check.due("slip(8)", -1, Check.slip(x, 8, 0));
        Check.due("slip(-1)", -1, Check.slip(x, -1, 0));
        Check.due("slip of 3", -1, Check.slip(x, 0, 3));
        Check.due("slip of 21", -1, Check.slip(x, 0, TOO_LONG));
        Check.due("status(1)", 4, x.status(1));
        Check.due("slipped(1), the refused ones don't count", 6, x.slipped(1));
        Check.due("the tape went", 20, x.feed(0, 0, 0, 0, 0));
        Check.due("nothing was played", 0, x.has(5));
    }
}
