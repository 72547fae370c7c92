/** Promise 31 and, for it, 5: questions of all locks and their faults. */
public final class QuestionTest {
    private static final String HALL = "lock a wards 3 at 0 jams 1;lock b wards 5 at 4;lock c wards 2 at 1;"
        + "note n turns a 1;note m turns b 2 c 3;";

    public static void main(String[] args) {
        answers();
        withoutLocks();
        faults();
        depth();
        Check.end("QuestionTest");
    }

    private static void asks(LockOrchestra x, String text, long due) {
        Check.due("ask() of " + text, due, Check.ask(x, text));
        Check.due("fault(0) of " + text, 0, x.fault(0));
        Check.due("fault(1) of " + text, -1, x.fault(1));
    }

    private static void answers() {
        LockOrchestra x = Check.orchestra(HALL);
        x.play(0);
        asks(x, "first all", 0);
        asks(x, "last all", 2);
        asks(x, "often all", 3);
        asks(x, "first ward=1", 0);
        asks(x, "last ward=1", 2);
        asks(x, "often ward=1", 2);
        asks(x, "first not all", -1);
        asks(x, "last ward>4", -1);
        asks(x, "often ward>4", 0);
        asks(x, "first number>0", 1);
        asks(x, "last number<2", 1);
        asks(x, "first stuck=1", 0);
        asks(x, "last stuck=1", 0);
        asks(x, "often stuck=0", 2);
        asks(x, "total wards", 10);
        asks(x, "total ward", 6);
        asks(x, "total number", 3);
        asks(x, "total stuck", 1);
        asks(x, "total jams", 3);
        asks(x, "most wards", 5);
        asks(x, "least wards", 2);
        asks(x, "most ward-wards", -1);
        asks(x, "least 0-wards", -5);
        asks(x, "total at number", 6);
        asks(x, "total at (number+1)", 4);
        asks(x, "total turns 0", 1);
        asks(x, "total turns 1", 5);
        asks(x, "total turns 2", 0);
        asks(x, "total turns (0-1)", 0);
        asks(x, "most turns number", 2);
        asks(x, "first turns 1>2", 2);
        asks(x, "total 9999*9999", 3000000);
        asks(x, "total 0-9999*9999", -3000000);
        asks(x, "total min(ward,2)*max(number,1)", 1 + 2 + 2);
        asks(x, " \n first\nall \n", 0);
        asks(x, "often[ward=1 or ward=4]and not stuck=1", 2);
        asks(x, "most(wards)", 5);
        Check.due("ask() changes nothing", 1, x.has(5));
        // one long question behind the other
        x = Check.orchestra(HALL);
        x.play(0);
        String longest = "total 1" + "+1".repeat(790);
        for (int k = 0; k < 3; k++) {
            asks(x, longest, 3 * 791);
        }
        asks(x, "total ward", 6);
    }

    private static void withoutLocks() {
        LockOrchestra x = new LockOrchestra();
        asks(x, "first all", -1);
        asks(x, "last all", -1);
        asks(x, "often all", 0);
        asks(x, "total 5", 0);
        asks(x, "most 5", 0);
        asks(x, "least 5", 0);
    }

    private static void faults() {
        LockOrchestra x = Check.orchestra(HALL);
        Check.askFails(x, "", 1, 0);
        Check.askFails(x, "  ", 1, 2);
        Check.askFails(x, "first", 1, 5);
        Check.askFails(x, "first ", 1, 6);
        Check.askFails(x, "firs all", 1, 0);
        Check.askFails(x, " lock a", 1, 1);
        Check.askFails(x, "1", 1, 0);
        Check.askFails(x, "first all;", 1, 9);
        Check.askFails(x, "first all all", 1, 10);
        Check.askFails(x, "first 1", 1, 7);
        Check.askFails(x, "first ward", 1, 10);
        Check.askFails(x, "total all", 1, 6);
        Check.askFails(x, "total 1=1", 1, 7);
        Check.askFails(x, "total not 1", 1, 6);
        Check.askFails(x, "total 1 2", 1, 8);
        Check.askFails(x, "total 12345", 1, 10);
        Check.askFails(x, "total 1a", 1, 7);
        Check.askFails(x, "total1", 1, 5);
        Check.askFails(x, "total abcdefghi", 1, 6);
        Check.askFails(x, "total a", 1, 6);
        Check.askFails(x, "total plays", 1, 6);
        Check.askFails(x, "total ward ward", 1, 11);
        Check.askFails(x, "total (1", 1, 8);
        Check.askFails(x, "total min(1,2", 1, 13);
        Check.askFails(x, "total turns", 1, 11);
        Check.askFails(x, "total \u00ff", 1, 6);
        Check.askFails(x, "often ward<>1", 1, 11);
        Check.due("status(1): none of them is refused", 0, x.status(1));
        Check.due("the tape went", 20, x.feed(0, 0, 0, 0, 0));
        Check.due("fault(0) stays", 1, x.fault(0));
        x.end(0);
        x.hall();
        Check.due("fault(0) of the latest", 0, x.fault(0));
    }

    private static void depth() {
        LockOrchestra x = Check.orchestra(HALL);
        asks(x, "total ((((((1))))))", 3);
        Check.askFails(x, "total (((((((1)))))))", 4, 12);
        asks(x, "total at at at at at at 0", 0);
        Check.askFails(x, "total turns at turns at turns at turns 0", 4, 33);
        asks(x, "total turns at turns at turns at 9", 0);
        Check.askFails(x, "first not[[not not not[", 4, 22);
        asks(x, "often not[[not not not all]]", 3);
        Check.askFails(x, "often not[[not not not at at 1=0]]", 4, 23);
        asks(x, "total turns 0+turns 0+turns 0+turns 0+turns 0+turns 0+turns 0", 7);
    }
}
