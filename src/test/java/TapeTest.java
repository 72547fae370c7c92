/** Promises 1 to 3 and, for them, 35: a new object, feed, end. */
public final class TapeTest {
    public static void main(String[] args) {
        newObject();
        fedAndCut();
        byteOrder();
        Check.end("TapeTest");
    }

    private static void newObject() {
        LockOrchestra x = new LockOrchestra();
        for (int what = 0; what <= 10; what++) {
            Check.due("new has(" + what + ")", 0, x.has(what));
        }
        for (int what = 0; what <= 5; what++) {
            Check.due("new status(" + what + ")", 0, x.status(what));
        }
        Check.due("new fault(0)", 0, x.fault(0));
        Check.due("new fault(1)", -1, x.fault(1));
        Check.due("new lock(0, 0)", -1, x.lock(0, 0));
        Check.due("new door(0)", -1, x.door(0));
        Check.due("new octet(0)", -1, x.octet(0));
        Check.due("new judged(0)", -1, x.judged(0));
        Check.due("new slipped(0)", -1, x.slipped(0));
        Check.due("new starts(0)", -1, x.starts(0));
        Check.due("new states()", 1, x.states());
        Check.due("NONE", -1, LockOrchestra.NONE);
        Check.due("NOTHING", -1000000000000000L, LockOrchestra.NOTHING);
    }

    private static void fedAndCut() {
        LockOrchestra x = new LockOrchestra();
        Check.due("end(1) of an empty tape", false, x.end(1));
        Check.due("end(0) of an empty tape", true, x.end(0));
        Check.due("end(-1)", false, x.end(-1));
        Check.due("status(0)", 2, x.status(0));
        for (int k = 1; k <= 80; k++) {
            Check.due("feed " + k, 20 * k, x.feed(k, -1, 0, 7, 8));
        }
        Check.due("the 81st feed", -1, x.feed(0, 0, 0, 0, 0));
        Check.due("status(0) behind it", 3, x.status(0));
        Check.due("end(1601)", false, x.end(1601));
        Check.due("end(1581)", true, x.end(1581));
        Check.due("feed on 1581", -1, x.feed(0, 0, 0, 0, 0));
        Check.due("end(1580)", true, x.end(1580));
        Check.due("feed on 1580", 1600, x.feed(0, 0, 0, 0, 0));
        Check.due("end(1600)", true, x.end(1600));
        Check.due("end(3)", true, x.end(3));
        Check.due("end(4) of three", false, x.end(4));
        Check.due("feed on 3", 23, x.feed(0, 0, 0, 0, 0));
        Check.due("status(0) at last", 6, x.status(0));
        Check.due("end(MIN)", false, x.end(Integer.MIN_VALUE));
        Check.due("end(MAX)", false, x.end(Integer.MAX_VALUE));
        Check.due("status(1)", 0, x.status(1));
    }

    private static void byteOrder() {
        LockOrchestra x = new LockOrchestra();
        // "rust" " 5; " "rust" " 99;" and blanks, each number's highest byte first
        Check.due("feed", 20, x.feed(0x72757374, 0x20353b20, 0x72757374, 0x2039393b, 0x200a0a20));
        Check.due("hall()", 2, x.hall());
        Check.due("has(4)", 99, x.has(4));
        Check.due("feed behind hall()", 20, x.feed(-1, -1, -1, -1, -1));
        Check.due("hall() of bytes 255", -1, x.hall());
        Check.due("fault(0)", 1, x.fault(0));
        Check.due("fault(1)", 0, x.fault(1));
        Check.due("feed behind a fault", 20, x.feed(0, 0, 0, 0, 0));
    }
}
