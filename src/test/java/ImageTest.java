/** Promises 32 to 35: images written and turned on, refusals counted. */
public final class ImageTest {
    private static final String HALL = "lock a wards 3 at 0 jams 1;lock b wards 5 at 4;note n turns a 1;note m turns b 2;"
        + "door d opens at 1=1;door e opens jams=2;";

    public static void main(String[] args) {
        written();
        turnedOn();
        refusedOnes();
        counted();
        Check.end("ImageTest");
    }

    private static int[] image(int... ahead) {
        int c = 11;
        int[] image = java.util.Arrays.copyOf(ahead, ahead.length + 1);
        for (int octet : ahead) {
            c = (3 * c + octet) % 251;
        }
        image[ahead.length] = c;
        return image;
    }

    private static void isImage(LockOrchestra x, int... ahead) {
        int[] due = image(ahead);
        Check.due("image()", due.length, x.image());
        for (int k = 0; k < due.length; k++) {
            Check.due("octet(" + k + ")", due[k], x.octet(k));
        }
        Check.due("octet behind", -1, x.octet(due.length));
        Check.due("octet(-1)", -1, x.octet(-1));
        Check.due("octet(MAX)", -1, x.octet(Integer.MAX_VALUE));
    }

    private static void written() {
        LockOrchestra x = Check.orchestra(HALL);
        Check.due("octet(0) ahead of any", -1, x.octet(0));
        isImage(x, 0, 0, 0, 0, 4, 0);
        x.play(1);
        Check.due("octet(1) of the latest", 0, x.octet(1));
        isImage(x, 0, 1, 0, 0, 1, 0);
        x.play(0);
        isImage(x, 0, 2, 1, 1, 1, 0);
        isImage(Check.orchestra(""), 0, 0);
        isImage(Check.orchestra("lock a wards 5 at 1;lock b wards 5 at 2;lock c wards 5 at 3;lock d wards 5 at 4;"),
            0, 0, 1, 0, 2, 0, 3, 0, 4, 0);
    }

    private static void turnedOn() {
        LockOrchestra x = Check.orchestra(HALL);
        x.play(1);
        x.seed(9);
        Check.hear(x, 6, 1);
        Check.judge(x, 0);
        Check.due("on()", true, Check.on(x, image(300 / 256, 300 % 256, 2, 1, 3, 1)));
        Check.due("the tape went", 20, x.feed(0, 0, 0, 0, 0));
        Check.due("has(5)", 300, x.has(5));
        Check.due("has(6)", 3, x.has(6));
        Check.due("has(7)", 2, x.has(7));
        Check.due("has(8)", 0, x.has(8));
        Check.due("has(10)", 0, x.has(10));
        Check.due("has(9) stays", 1, x.has(9));
        Check.due("judged(1) stays", 1, x.judged(1));
        Check.due("lock(0, 1)", 2, x.lock(0, 1));
        Check.due("lock(1, 1)", 3, x.lock(1, 1));
        Check.due("lock(1, 2) stays", 4, x.lock(1, 2));
        Check.due("undo()", false, x.undo());
        isImage(x, 1, 44, 2, 1, 3, 1);
        Check.due("oil(1)", true, x.oil(1));
        Check.due("play(1)", 0, x.play(1));
        Check.due("has(5)", 301, x.has(5));
        Check.due("on() of 9999", true, Check.on(x, image(9999 / 256, 9999 % 256, 1, 0, 0, 0)));
        Check.due("has(5)", 9999, x.has(5));
        Check.due("has(6), where it jams", 0, x.has(6));
        Check.due("status(5)", 0, x.status(5));
    }

    private static void refusedOnes() {
        LockOrchestra x = Check.orchestra(HALL);
        x.play(1);
        Check.due("on() of nothing", false, Check.on(x));
        Check.due("on() of 10000", false, Check.on(x, image(10000 / 256, 10000 % 256, 0, 0, 4, 0)));
        Check.due("on() of ward 3 of 3", false, Check.on(x, image(0, 0, 3, 0, 4, 0)));
        Check.due("on() of ward 5 of 5", false, Check.on(x, image(0, 0, 0, 0, 5, 0)));
        Check.due("on() of jammed 2", false, Check.on(x, image(0, 0, 0, 2, 4, 0)));
        Check.due("on() too short", false, Check.on(x, image(0, 0, 0, 0)));
        Check.due("on() too long", false, Check.on(x, image(0, 0, 0, 0, 4, 0, 0, 0)));
        int[] wrong = image(0, 0, 0, 0, 4, 0);
        wrong[6] ^= 1;
        Check.due("on() of a wrong last byte", false, Check.on(x, wrong));
        int[] above = image(0, 0, 0, 0, 4, 0);
        above[6] += 251;
        if (above[6] < 256) {
            Check.due("on() of a last byte above 250", false, Check.on(x, above));
        } else {
            Check.due("on() of another wrong byte", false, Check.on(x, image(0, 0, 0, 0, 4)));
        }
        Check.due("the tape went", 20, x.feed(0, 0, 0, 0, 0));
        Check.due("status(5)", 9, x.status(5));
        Check.due("has(5) stays", 1, x.has(5));
        Check.due("has(7) stays", 1, x.has(7));
        Check.due("has(8) stays", 1, x.has(8));
        Check.due("has(10) stays", 1, x.has(10));
        Check.due("undo()", true, x.undo());
    }

    private static void counted() {
        LockOrchestra x = Check.orchestra(HALL);
        x.end(-1);
        Check.tape(x, "rust");
        x.hall();
        Check.judge(x, 9);
        Check.share(x, 9);
        Check.slip(x, 9, 0);
        Check.hear(x, 9, 0);
        x.play(9);
        x.play(-1);
        Check.piece(x);
        x.oil(0);
        x.evening(0);
        x.evening(51);
        x.evening(-4);
        x.undo();
        x.seed(-3);
        Check.on(x, 1, 2, 3);
        Check.ask(x, "nonsense");
        x.shortest(99, 0);
        x.forbid(99);
        x.hangs(9);
        x.octet(99);
        int[] due = {1, 5, 3, 4, 1, 2};
        for (int what = 0; what < 6; what++) {
            Check.due("status(" + what + ")", due[what], x.status(what));
        }
        Check.due("status(6)", -1, x.status(6));
        Check.due("status(-1)", -1, x.status(-1));
        Check.tape(x, HALL);
        x.hall();
        Check.due("status(1) behind a hall", 5, x.status(1));
    }
}
