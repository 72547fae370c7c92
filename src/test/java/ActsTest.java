/** Promises 12 and 25 to 30: notes, pieces, oil, evenings, undone acts, the seed, what is kept. */
public final class ActsTest {
    private static final String HALL = "lock a wards 3 at 0 jams 2;lock b wards 2 at 0;"
        + "note n turns a 1;note m turns b 1;note o turns a 1 b 1;"
        + "door d opens at 0=1;door e opens at 1=1;door f opens jams>0;";

    public static void main(String[] args) {
        played();
        pieces();
        oiled();
        kept();
        keptAgain();
        undone();
        atMost();
        draws();
        rust();
        seeds();
        Check.end("ActsTest");
    }

    private static void keptRow(LockOrchestra x, int k, int played, int door, int opened) {
        Check.due("kept(" + k + ", 0)", played, x.kept(k, 0));
        Check.due("kept(" + k + ", 1)", door, x.kept(k, 1));
        Check.due("kept(" + k + ", 2)", opened, x.kept(k, 2));
        Check.due("kept(" + k + ", 3)", -1, x.kept(k, 3));
        Check.due("kept(" + k + ", -1)", -1, x.kept(k, -1));
    }

    private static void played() {
        LockOrchestra x = Check.orchestra(HALL);
        Check.due("play(0)", 1, x.play(0));
        Check.due("play(1)", 3, x.play(1));
        Check.due("play(6)", 3, x.play(6));
        Check.due("has(5)", 3, x.has(5));
        Check.due("play(2)", 4, x.play(2));
        Check.due("lock(0, 1)", 2, x.lock(0, 1));
        Check.due("lock(1, 1)", 0, x.lock(1, 1));
        Check.due("has(6)", 1, x.has(6));
        Check.due("play(0), jammed", -1, x.play(0));
        Check.due("play(2), one lock of it jammed", -1, x.play(2));
        Check.due("play(3)", -1, x.play(3));
        Check.due("play(5)", -1, x.play(5));
        Check.due("play(7)", -1, x.play(7));
        Check.due("play(-1)", -1, x.play(-1));
        Check.due("status(2)", 6, x.status(2));
        Check.due("has(5)", 4, x.has(5));
        Check.due("has(10)", 4, x.has(10));
        Check.due("play(1)", 6, x.play(1));
        Check.due("play(6)", 6, x.play(6));
    }

    private static void pieces() {
        LockOrchestra x = Check.orchestra(HALL);
        Check.due("piece n m rest n n m", 4, Check.piece(x, 0, 1, 6, 0, 0, 1));
        Check.due("has(5)", 4, x.has(5));
        Check.due("has(10), one act", 1, x.has(10));
        Check.due("has(6)", 1, x.has(6));
        Check.due("has(7)", 6, x.has(7));
        keptRow(x, 0, 1, 0, 1);
        keptRow(x, 1, 2, 1, 1);
        keptRow(x, 2, 4, 0, 0);
        keptRow(x, 3, 4, 2, 1);
        Check.due("has(8)", 4, x.has(8));
        Check.due("piece n, which can't be played", 0, Check.piece(x, 0));
        Check.due("has(5)", 4, x.has(5));
        Check.due("status(2)", 0, x.status(2));
        Check.due("piece of no length", -1, Check.piece(x));
        Check.due("piece of 3", -1, Check.piece(x, 1, 3));
        Check.due("piece of 7", -1, Check.piece(x, 7));
        int[] more = new int[21];
        java.util.Arrays.fill(more, 6);
        Check.due("piece of 21", -1, Check.piece(x, more));
        Check.due("status(2)", 4, x.status(2));
        Check.due("has(5)", 4, x.has(5));
        Check.due("the tape went", 20, x.feed(0, 0, 0, 0, 0));
        Check.due("piece of 20", 20, Check.piece(x, java.util.Arrays.copyOf(more, 20)));
        Check.due("has(5)", 24, x.has(5));
        Check.due("undo()", true, x.undo());
        Check.due("has(5)", 4, x.has(5));
    }

    private static void oiled() {
        LockOrchestra x = Check.orchestra(HALL);
        Check.due("oil(0)", false, x.oil(0));
        Check.due("oil(2)", false, x.oil(2));
        Check.due("oil(-1)", false, x.oil(-1));
        Check.due("status(3)", 3, x.status(3));
        Check.due("has(10)", 0, x.has(10));
        Check.piece(x, 0, 0);
        Check.due("oil(1)", false, x.oil(1));
        Check.due("oil(0)", true, x.oil(0));
        Check.due("has(6)", 0, x.has(6));
        Check.due("lock(0, 1) stays", 2, x.lock(0, 1));
        Check.due("has(5)", 2, x.has(5));
        Check.due("has(10)", 2, x.has(10));
        Check.due("has(8)", 4, x.has(8));
        keptRow(x, 3, 2, 2, 0);
        Check.due("oil(0) again", false, x.oil(0));
        Check.due("play(0), from the ward where it jams", 0, x.play(0));
        Check.due("lock(0, 1)", 0, x.lock(0, 1));
        Check.due("undo()", true, x.undo());
        Check.due("undo()", true, x.undo());
        Check.due("has(6), the oil undone", 1, x.has(6));
        Check.due("has(8), the oil undone", 3, x.has(8));
    }

    private static void kept() {
        LockOrchestra x = Check.orchestra(HALL);
        Check.due("kept(0, 0) of none", -1, x.kept(0, 0));
        Check.due("kept(-1, 0)", -1, x.kept(-1, 0));
        Check.due("play(2), two doors at once", 3, x.play(2));
        keptRow(x, 0, 1, 0, 1);
        keptRow(x, 1, 1, 1, 1);
        Check.due("kept(2, 0)", -1, x.kept(2, 0));
        x.play(6);
        Check.due("a rest changes none", 2, x.has(8));
        Check.due("play(2)", 4, x.play(2));
        keptRow(x, 2, 3, 0, 0);
        keptRow(x, 3, 3, 1, 0);
        keptRow(x, 4, 3, 2, 1);
    }

    private static void keptAgain() {
        // m opens and shuts e by turns
        LockOrchestra x = Check.orchestra(HALL);
        int[] twenty = new int[20];
        java.util.Arrays.fill(twenty, 1);
        Check.piece(x, twenty);
        Check.piece(x, twenty);
        Check.due("has(8)", 40, x.has(8));
        keptRow(x, 0, 1, 1, 1);
        keptRow(x, 39, 40, 1, 0);
        Check.piece(x, 1, 1, 1);
        Check.due("has(8), forty at most", 40, x.has(8));
        for (int k = 0; k < 40; k++) {
            keptRow(x, k, 4 + k, 1, k % 2);
        }
        Check.due("kept(40, 0)", -1, x.kept(40, 0));
        x.undo();
        Check.due("has(8)", 40, x.has(8));
        keptRow(x, 0, 1, 1, 1);
        keptRow(x, 39, 40, 1, 0);
        x.undo();
        Check.due("has(8)", 20, x.has(8));
        keptRow(x, 19, 20, 1, 0);
    }

    private static void undone() {
        LockOrchestra x = Check.orchestra(HALL);
        Check.due("undo() of none", false, x.undo());
        Check.due("status(4)", 1, x.status(4));
        x.play(9);
        Check.due("undo() of what was refused", false, x.undo());
        Check.piece(x, 0, 1, 0);
        x.evening(5);
        x.play(1);
        int open = x.has(7);
        Check.due("undo()", true, x.undo());
        Check.due("e is as ahead of it", open ^ 2, x.has(7));
        Check.due("undo()", true, x.undo());
        Check.due("has(5), an evening is one act", 3, x.has(5));
        Check.due("has(7)", 6, x.has(7));
        Check.due("has(8)", 4, x.has(8));
        Check.due("undo()", true, x.undo());
        Check.due("has(5)", 0, x.has(5));
        Check.due("has(6)", 0, x.has(6));
        Check.due("has(8)", 0, x.has(8));
        Check.due("undo()", false, x.undo());
        Check.due("status(4)", 3, x.status(4));
        for (int k = 0; k < 45; k++) {
            x.play(1);
            Check.due("has(10)", Math.min(k + 1, 20), x.has(10));
        }
        for (int k = 1; k <= 20; k++) {
            Check.due("undo() " + k, true, x.undo());
            Check.due("has(5)", 45 - k, x.has(5));
            Check.due("has(7)", (45 - k) % 2 * 2, x.has(7));
        }
        Check.due("the 21st undo()", false, x.undo());
        Check.due("has(5)", 25, x.has(5));
        Check.due("has(8)", 25, x.has(8));
    }

    private static void atMost() {
        LockOrchestra x = Check.orchestra(HALL);
        int c = 11;
        int[] image = {9998 / 256, 9998 % 256, 0, 0, 0, 0, 0};
        for (int k = 0; k < 6; k++) {
            c = (3 * c + image[k]) % 251;
        }
        image[6] = c;
        Check.due("on()", true, Check.on(x, image));
        x.play(1);
        Check.due("has(5)", 9999, x.has(5));
        x.play(1);
        Check.due("has(5), 9999 at most", 9999, x.has(5));
        keptRow(x, 0, 9999, 1, 1);
        keptRow(x, 1, 9999, 1, 0);
        x.undo();
        x.undo();
        Check.due("has(5)", 9998, x.has(5));
    }

    /** An evening told beforehand, draw by draw, without rust. */
    private static void draws() {
        LockOrchestra x = Check.orchestra("lock a wards 5 at 0;lock b wards 5 at 0;lock c wards 5 at 0 jams 4;"
            + "note n turns a 1;note m turns b 1;note o turns c 1;");
        Check.due("evening(0)", -1, x.evening(0));
        Check.due("evening(51)", -1, x.evening(51));
        Check.due("evening(-1)", -1, x.evening(-1));
        Check.due("status(3)", 3, x.status(3));
        Check.due("has(10)", 0, x.has(10));
        long seed = 1;
        int[] turned = new int[3];
        int notes = 0;
        for (int turn = 0; turn < 50; turn++) {
            seed = (1103515245L * seed + 12345L) & 0x7fffffffL;
            int note = (int) (seed / 64 % 3);
            seed = (1103515245L * seed + 12345L) & 0x7fffffffL;
            if (note < 2 || turned[2] < 4) {
                turned[note]++;
                notes++;
            }
        }
        Check.due("evening(50), from seed 1 on", notes, x.evening(50));
        Check.due("fewer than 50", true, notes < 50);
        Check.due("has(5), rests too", 50, x.has(5));
        Check.due("has(10)", 1, x.has(10));
        for (int l = 0; l < 3; l++) {
            Check.due("lock(" + l + ", 1)", turned[l] % 5, x.lock(l, 1));
        }
        Check.due("evening(1) of no notes", -1, new LockOrchestra().evening(1));
    }

    private static void rust() {
        String text = "lock a wards 2 at 0;lock b wards 2 at 0;note n turns a 1;note m turns b 1;"
            + "door d opens jams>0;door e opens at 0=1;door f opens at 1=1;rust ";
        LockOrchestra x = Check.orchestra(text + "100;");
        x.seed(5);
        long seed = 5;
        int jams = 0;
        int[] wards = new int[2];
        int keeps = 0;
        int notes = 0;
        for (int turn = 0; turn < 6; turn++) {
            seed = (1103515245L * seed + 12345L) & 0x7fffffffL;
            int note = (int) (seed / 64 % 2);
            if ((jams >> note & 1) == 0) {
                wards[note] ^= 1;
                keeps++;
                notes++;
            }
            seed = (1103515245L * seed + 12345L) & 0x7fffffffL;
            seed = (1103515245L * seed + 12345L) & 0x7fffffffL;
            jams |= 1 << (int) (seed / 64 % 2);
        }
        Check.due("evening(6), rust 100", notes, x.evening(6));
        Check.due("has(6)", jams, x.has(6));
        Check.due("lock(0, 1)", wards[0], x.lock(0, 1));
        Check.due("lock(1, 1)", wards[1], x.lock(1, 1));
        Check.due("door(0), opened by rust", 1, x.door(0));
        Check.due("has(8): what rust opens is not kept", keeps, x.has(8));
        for (int k = 0; k < keeps; k++) {
            Check.due("kept(" + k + ", 1)", true, x.kept(k, 1) > 0);
        }
        x.undo();
        Check.due("has(6), undone", 0, x.has(6));
        // oil shuts the door again, and that is kept
        x = Check.orchestra("lock a wards 2 at 0;note n turns a 1;door d opens jams>0;rust 100;");
        x.evening(1);
        Check.due("has(8)", 0, x.has(8));
        Check.due("oil(0)", true, x.oil(0));
        keptRow(x, 0, 1, 0, 0);
        // rust 0 never jams, though 100 is drawn from
        x = Check.orchestra(text + "0;");
        for (int k = 0; k < 4; k++) {
            Check.due("evening(50), rust 0", 50, x.evening(50));
        }
        Check.due("has(6)", 0, x.has(6));
        rustBelow(text);
    }

    /** Rust comes just when the draw of 100 is below it. */
    private static void rustBelow(String text) {
        long seed = (1103515245L * 77 + 12345L) & 0x7fffffffL;
        seed = (1103515245L * seed + 12345L) & 0x7fffffffL;
        int drawn = (int) (seed / 64 % 100);
        LockOrchestra x = Check.orchestra(text + drawn + ";");
        x.seed(77);
        x.evening(1);
        Check.due("has(6), rust as drawn", 0, x.has(6));
        x = Check.orchestra(text + (drawn + 1) + ";");
        x.seed(77);
        x.evening(1);
        Check.due("has(6), rust above what is drawn", true, x.has(6) != 0);
    }

    private static void seeds() {
        String text = "lock a wards 5 at 0;lock b wards 5 at 0;note n turns a 1;note m turns b 1;note o turns a 2;rust 10;";
        LockOrchestra x = Check.orchestra(text);
        LockOrchestra y = Check.orchestra(text);
        Check.due("seed(-1)", false, x.seed(-1));
        Check.due("seed(MIN)", false, x.seed(Integer.MIN_VALUE));
        Check.due("status(5)", 2, x.status(5));
        Check.due("seed(1), as at first", true, y.seed(1));
        same(x, y);
        // undone, the seed stays: y draws on behind what it drew
        y.undo();
        y.evening(20);
        Check.tape(x, text);
        x.hall();
        x.evening(20);
        Check.tape(y, text);
        y.hall();
        same(x, y);
        Check.due("seed(0)", true, x.seed(0));
        Check.due("seed(0)", true, y.seed(0));
        same(x, y);
        Check.due("seed(MAX)", true, x.seed(Integer.MAX_VALUE));
        y.seed(Integer.MAX_VALUE);
        same(x, y);
        Check.due("status(5)", 2, x.status(5));
        Check.due("seed is no act", x.has(10), y.has(10));
    }

    private static void same(LockOrchestra x, LockOrchestra y) {
        Check.tape(x, "lock a wards 5 at 0;lock b wards 5 at 0;note n turns a 1;note m turns b 1;note o turns a 2;rust 10;");
        x.hall();
        Check.tape(y, "lock a wards 5 at 0;lock b wards 5 at 0;note n turns a 1;note m turns b 1;note o turns a 2;rust 10;");
        y.hall();
        Check.due("evening(7)", x.evening(7), y.evening(7));
        for (int l = 0; l < 2; l++) {
            Check.due("lock(" + l + ", 1)", x.lock(l, 1), y.lock(l, 1));
        }
        Check.due("has(6)", x.has(6), y.has(6));
    }
}
