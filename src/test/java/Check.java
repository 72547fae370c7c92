import java.nio.charset.StandardCharsets;

/** What the tests share: texts and bytes put on the tape, answers looked at, an end with a code. */
final class Check {
    private static int looked = 0;
    private static int wrong = 0;

    private Check() {
    }

    static void due(String call, long want, long got) {
        looked++;
        if (want != got) {
            wrong++;
            System.out.println(call + " answered " + got + ", due is " + want);
        }
    }

    static void due(String call, boolean want, boolean got) {
        due(call, want ? 1 : 0, got ? 1 : 0);
    }

    static int looked() {
        return looked;
    }

    static int wrong() {
        return wrong;
    }

    static void end(String test) {
        System.out.println(test + ": " + looked + " answers, " + wrong + " wrong");
        if (wrong != 0 || looked == 0) {
            System.exit(1);
        }
    }

    /** Puts just these bytes on the tape. */
    static void tape(LockOrchestra x, int... bytes) {
        x.end(0);
        for (int from = 0; from < bytes.length; from += 20) {
            int[] five = new int[5];
            for (int k = 0; k < 20; k++) {
                int octet = from + k < bytes.length ? bytes[from + k] & 255 : 32;
                five[k / 4] = five[k / 4] << 8 | octet;
            }
            x.feed(five[0], five[1], five[2], five[3], five[4]);
        }
        x.end(bytes.length);
    }

    static void tape(LockOrchestra x, String text) {
        byte[] bytes = text.getBytes(StandardCharsets.ISO_8859_1);
        int[] numbers = new int[bytes.length];
        for (int k = 0; k < bytes.length; k++) {
            numbers[k] = bytes[k] & 255;
        }
        tape(x, numbers);
    }

    static LockOrchestra orchestra(String hall) {
        LockOrchestra x = new LockOrchestra();
        tape(x, hall);
        if (x.hall() == LockOrchestra.NONE) {
            due("hall() of " + hall + ", fault " + x.fault(0) + " at " + x.fault(1), 0, 1);
        }
        return x;
    }

    static int judge(LockOrchestra x, int... piece) {
        tape(x, piece);
        return x.judge();
    }

    static int share(LockOrchestra x, int... piece) {
        tape(x, piece);
        return x.share();
    }

    static int slip(LockOrchestra x, int doors, int... piece) {
        tape(x, piece);
        return x.slip(doors);
    }

    static int hear(LockOrchestra x, int... rows) {
        tape(x, rows);
        return x.hear();
    }

    static int piece(LockOrchestra x, int... piece) {
        tape(x, piece);
        return x.piece();
    }

    static boolean on(LockOrchestra x, int... image) {
        tape(x, image);
        return x.on();
    }

    static long ask(LockOrchestra x, String question) {
        tape(x, question);
        return x.ask();
    }

    /** A hall's text with a ^ at the place of its fault. */
    static void hallFault(int fault, String marked) {
        int place = marked.indexOf('^');
        hallFails(new LockOrchestra(), marked.substring(0, place) + marked.substring(place + 1), fault, place);
    }

    /** A question's text with a ^ at the place of its fault. */
    static void askFault(String hall, int fault, String marked) {
        int place = marked.indexOf('^');
        askFails(orchestra(hall), marked.substring(0, place) + marked.substring(place + 1), fault, place);
    }

    static LockOrchestra hallGood(int statements, String text) {
        LockOrchestra x = new LockOrchestra();
        hallIs(x, text, statements);
        return x;
    }

    static void hallIs(LockOrchestra x, String text, int statements) {
        tape(x, text);
        due("hall() of " + text, statements, x.hall());
        due("fault(0) of " + text, 0, x.fault(0));
        due("fault(1) of " + text, LockOrchestra.NONE, x.fault(1));
    }

    static void hallFails(LockOrchestra x, String text, int fault, int place) {
        tape(x, text);
        due("hall() of " + text, LockOrchestra.NONE, x.hall());
        due("fault(0) of " + text, fault, x.fault(0));
        due("fault(1) of " + text, place, x.fault(1));
    }

    static void askFails(LockOrchestra x, String text, int fault, int place) {
        due("ask() of " + text, LockOrchestra.NOTHING, ask(x, text));
        due("fault(0) of " + text, fault, x.fault(0));
        due("fault(1) of " + text, place, x.fault(1));
    }
}
