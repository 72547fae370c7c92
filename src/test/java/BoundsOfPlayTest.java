import java.math.BigInteger;

/** Terms II: each bound of what is played, kept, undone and drawn. */
public final class BoundsOfPlayTest {
    private static final String FOUR_JAM = "lock a wards 2 at 0 jams 1;lock b wards 2 at 0 jams 1;lock c wards 2 at 0 jams 1;"
        + "lock d wards 2 at 0 jams 1;";
    // n opens and shuts d, o opens and shuts d and e at once
    private static final String SWITCHES = "lock a wards 2 at 0;lock b wards 2 at 0;note n turns a 1;note o turns a 1 b 1;"
        + "door d opens at 0=1;door e opens at 1=1;";

    public static void main(String[] args) {
        Sentence.of("II", "All LOCKS stand as told at first, none is JAMMED (also where it jams).", BoundsOfPlayTest::atFirst);
        Sentence.of("II", "A NOTE CAN BE PLAYED, if none of its LOCKS is JAMMED.", BoundsOfPlayTest::canBePlayed);
        Sentence.of("II", "turns each of its LOCKS so many WARDS on (behind the last one comes 0)", BoundsOfPlayTest::turnedOn);
        Sentence.of("II", "each that then stands where it jams is JAMMED.", BoundsOfPlayTest::jams);
        Sentence.of("II", "A REST (number 6) CAN always BE PLAYED, nothing turns.", BoundsOfPlayTest::rests);
        Sentence.of("II", "A DOOR is OPEN, if its TEST holds.", BoundsOfPlayTest::openDoors);
        Sentence.of("II", "OILED a LOCK is JAMMED no more (it stays where it stands).", BoundsOfPlayTest::oiled);
        Sentence.of("II", "KEPT is each DOOR that was opened or shut by a NOTE or oil of an ACT:", BoundsOfPlayTest::kept);
        Sentence.of("II", "how many were PLAYED so far, with it, in all (9999 at most)", BoundsOfPlayTest::playedAtMost);
        Sentence.of("II", "the DOOR, 1 if it was opened, 0 if shut;", BoundsOfPlayTest::openedOrShut);
        Sentence.of("II", "the last 40 are told.", BoundsOfPlayTest::lastForty);
        Sentence.of("II", "a PIECE of some, as far as it CAN BE PLAYED;", BoundsOfPlayTest::pieces);
        Sentence.of("II", "a LOCK that is JAMMED is OILED;", BoundsOfPlayTest::oneOiled);
        Sentence.of("II", "for each turn a DRAW of all NOTES: it is PLAYED, if it CAN (else a REST);", BoundsOfPlayTest::drawnNotes);
        Sentence.of("II", "then a DRAW of 100: below rust a DRAW of the LOCKS: that one is JAMMED.", BoundsOfPlayTest::drawnRust);
        Sentence.of("II", "The last 20 can be undone.", BoundsOfPlayTest::lastTwenty);
        Sentence.of("II", "x (the seed) becomes (1103515245 x + 12345) mod 2 to the 31; floor(x / 64) mod m.", BoundsOfPlayTest::draws);
        Check.end("BoundsOfPlayTest");
    }

    private static void atFirst() {
        for (int many = 2; many <= 5; many++) {
            for (int ward = 0; ward < many; ward++) {
                LockOrchestra x = Check.orchestra("lock l wards " + many + " at " + ward + " jams " + ward + ";note n turns l 1;");
                Check.due("lock(0, 1)", ward, x.lock(0, 1));
                Check.due("lock(0, 4), where it jams", 0, x.lock(0, 4));
                Check.due("has(6)", 0, x.has(6));
                Check.due("note(0, 0)", 1, x.note(0, 0));
                Check.due("play(0)", 0, x.play(0));
                Check.due("lock(0, 1)", (ward + 1) % many, x.lock(0, 1));
                Check.due("lock(0, 4)", 0, x.lock(0, 4));
            }
        }
    }

    private static void canBePlayed() {
        String text = FOUR_JAM + "note n turns a 1;note m turns b 1;note o turns a 1 b 1;note p turns c 1 d 1;note q turns d 1 a 1;"
            + "note r turns a 1 b 1 c 1 d 1;";
        int[] locks = {1, 2, 3, 12, 9, 15};
        for (int jams = 0; jams < 16; jams++) {
            LockOrchestra x = Check.orchestra(text);
            Check.due("on()", true, Check.on(x, image(0, jams & 1, jams >> 1 & 1, jams >> 2 & 1, jams >> 3 & 1)));
            Check.due("has(6)", jams, x.has(6));
            for (int note = 0; note < 6; note++) {
                boolean can = (locks[note] & jams) == 0;
                Check.due("note(" + note + ", 0), jammed " + jams, can ? 1 : 0, x.note(note, 0));
                Check.due("judge " + note + ", jammed " + jams, can ? 1 : 0, Check.judge(x, note));
            }
        }
    }

    /** An image of all locks at 0, with those jams. */
    private static int[] image(int played, int... jams) {
        int[] image = new int[3 + 2 * jams.length];
        image[0] = played / 256;
        image[1] = played % 256;
        for (int k = 0; k < jams.length; k++) {
            image[3 + 2 * k] = jams[k];
        }
        int check = 11;
        for (int k = 0; k < image.length - 1; k++) {
            check = (3 * check + image[k]) % 251;
        }
        image[image.length - 1] = check;
        return image;
    }

    private static void turnedOn() {
        for (int many = 2; many <= 5; many++) {
            for (int ward = 0; ward < many; ward++) {
                for (int by = 1; by <= 4; by++) {
                    // between two others, which must stay
                    LockOrchestra x = Check.orchestra("lock a wards 5 at 4;lock l wards " + many + " at " + ward
                        + ";lock b wards 5 at 4;note n turns l " + by + ";");
                    x.play(0);
                    Check.due("lock(1, 1), " + by + " on from " + ward + " of " + many, (ward + by) % many, x.lock(1, 1));
                    Check.due("lock(0, 1) stays", 4, x.lock(0, 1));
                    Check.due("lock(2, 1) stays", 4, x.lock(2, 1));
                }
            }
        }
        LockOrchestra x = Check.orchestra("lock a wards 2 at 1;lock b wards 3 at 2;lock c wards 4 at 3;lock d wards 5 at 4;"
            + "note n turns a 1 b 1 c 1 d 1;note m turns a 4 b 4 c 4 d 4;");
        x.play(0);
        for (int lock = 0; lock < 4; lock++) {
            Check.due("lock(" + lock + ", 1) behind the last", 0, x.lock(lock, 1));
        }
        x.play(1);
        for (int lock = 0; lock < 4; lock++) {
            Check.due("lock(" + lock + ", 1)", 4 % (lock + 2), x.lock(lock, 1));
        }
    }

    private static void jams() {
        for (int many = 2; many <= 5; many++) {
            for (int jam = 0; jam < many; jam++) {
                for (int by = 1; by <= 4; by++) {
                    LockOrchestra x = Check.orchestra("lock l wards " + many + " at 1 jams " + jam + ";note n turns l " + by + ";");
                    x.play(0);
                    // passed by it does not jam; turned round to where it stood it does
                    boolean jammed = (1 + by) % many == jam;
                    Check.due("lock(0, 4), " + by + " on, jams at " + jam + " of " + many, jammed ? 1 : 0, x.lock(0, 4));
                    Check.due("note(0, 0)", jammed ? 0 : 1, x.note(0, 0));
                }
            }
        }
        // each of them, none of the others
        LockOrchestra x = Check.orchestra("lock a wards 3 at 0 jams 1;lock b wards 3 at 0 jams 2;lock c wards 3 at 0;"
            + "lock d wards 3 at 1 jams 1;note n turns a 1 b 2 c 1;");
        x.play(0);
        Check.due("has(6)", 3, x.has(6));
    }

    private static void rests() {
        LockOrchestra x = new LockOrchestra();
        Check.due("play(6) without a hall", 0, x.play(6));
        Check.due("play(5) without a hall", -1, x.play(5));
        Check.due("play(7) without a hall", -1, x.play(7));
        Check.due("has(5)", 1, x.has(5));
        x = Check.orchestra("lock l wards 2 at 0 jams 1;note a turns l 1;note b turns l 1;note c turns l 1;note d turns l 1;"
            + "note e turns l 1;note f turns l 1;door g opens at 0=1;");
        Check.due("play(6) with six notes", 0, x.play(6));
        Check.due("lock(0, 1)", 0, x.lock(0, 1));
        Check.due("play(5)", 1, x.play(5));
        for (int note = 0; note < 6; note++) {
            Check.due("play(" + note + "), jammed", -1, x.play(note));
        }
        Check.due("play(6), all jammed", 1, x.play(6));
        Check.due("play(7)", -1, x.play(7));
        Check.due("has(5)", 3, x.has(5));
        Check.due("lock(0, 1)", 1, x.lock(0, 1));
        Check.due("judge of rests, all jammed", 3, Check.judge(x, 6, 6, 6));
        Check.due("note(6, 0): a rest is no note", -1, x.note(6, 0));
    }

    private static void openDoors() {
        LockOrchestra x = Check.orchestra("lock a wards 5 at 0 jams 4;note n turns a 1;door d opens at 0<1;door e opens at 0=1;"
            + "door f opens at 0>1;door g opens jams=1;door h opens all;door i opens not all;");
        int[] due = {17, 18, 20, 20, 28};
        for (int ward = 0; ward < 5; ward++) {
            Check.due("has(7), ward " + ward, due[ward], x.has(7));
            for (int door = 0; door < 6; door++) {
                Check.due("door(" + door + "), ward " + ward, due[ward] >> door & 1, x.door(door));
            }
            if (ward < 4) {
                Check.due("play(0)", due[ward + 1], x.play(0));
            }
        }
    }

    private static void oiled() {
        LockOrchestra x = Check.orchestra("lock a wards 5 at 1 jams 3;lock b wards 2 at 0 jams 1;note n turns a 1;note m turns b 1;");
        x.play(0);
        x.play(0);
        x.play(1);
        Check.due("has(6)", 3, x.has(6));
        Check.due("oil(0)", true, x.oil(0));
        Check.due("lock(0, 4)", 0, x.lock(0, 4));
        Check.due("lock(0, 1) stays", 3, x.lock(0, 1));
        Check.due("lock(1, 4) stays", 1, x.lock(1, 4));
        Check.due("note(0, 0)", 1, x.note(0, 0));
        x.play(0);
        Check.due("lock(0, 1)", 4, x.lock(0, 1));
        Check.due("lock(0, 4)", 0, x.lock(0, 4));
    }

    private static void row(LockOrchestra x, int k, int played, int door, int opened) {
        Check.due("kept(" + k + ", 0)", played, x.kept(k, 0));
        Check.due("kept(" + k + ", 1)", door, x.kept(k, 1));
        Check.due("kept(" + k + ", 2)", opened, x.kept(k, 2));
    }

    private static void kept() {
        LockOrchestra x = Check.orchestra("lock a wards 3 at 0 jams 2;note n turns a 1;door d opens at 0=1;door e opens jams>0;"
            + "door f opens all;rust 100;");
        Check.due("has(8): what is open at first is not kept", 0, x.has(8));
        x.play(6);
        Check.due("has(8): a rest opens none", 0, x.has(8));
        Check.judge(x, 0, 0);
        Check.due("has(8): what is judged is no act", 0, x.has(8));
        x.play(0);
        Check.due("has(8)", 1, x.has(8));
        row(x, 0, 2, 0, 1);
        x.play(0);
        Check.due("has(8)", 3, x.has(8));
        row(x, 1, 3, 0, 0);
        row(x, 2, 3, 1, 1);
        x.oil(0);
        Check.due("has(8)", 4, x.has(8));
        row(x, 3, 3, 1, 0);
        // an evening's note shuts none, its rust opens e, which is not kept
        Check.due("evening(1)", 1, x.evening(1));
        Check.due("door(1)", 1, x.door(1));
        Check.due("has(8)", 4, x.has(8));
        x.undo();
        x.undo();
        Check.due("has(8), undone", 3, x.has(8));
        Check.on(x, image(5, 1));
        Check.due("has(8): an image keeps none", 0, x.has(8));
    }

    private static void playedAtMost() {
        LockOrchestra x = Check.orchestra(SWITCHES);
        Check.on(x, image(9997, 0, 0));
        for (int due : new int[] {9998, 9999, 9999, 9999}) {
            x.play(0);
            Check.due("has(5)", due, x.has(5));
        }
        row(x, 0, 9998, 0, 1);
        row(x, 1, 9999, 0, 0);
        row(x, 2, 9999, 0, 1);
        row(x, 3, 9999, 0, 0);
        x.play(6);
        Check.due("has(5) behind a rest", 9999, x.has(5));
        x.evening(50);
        Check.due("has(5) behind an evening", 9999, x.has(5));
        Check.due("image()", 7, x.image());
        Check.due("octet(0)", 9999 / 256, x.octet(0));
        Check.due("octet(1)", 9999 % 256, x.octet(1));
        Check.on(x, image(9990, 0, 0));
        x.evening(50);
        Check.due("has(5) behind an evening across it", 9999, x.has(5));
        x.undo();
        Check.due("has(5), undone", 9990, x.has(5));
        Check.piece(x, 0, 0, 0, 0, 0, 0, 0, 0, 0, 0, 0);
        Check.due("has(5) behind a piece across it", 9999, x.has(5));
        row(x, 7, 9998, 0, 0);
        row(x, 8, 9999, 0, 1);
        row(x, 9, 9999, 0, 0);
        row(x, 10, 9999, 0, 1);
        // as many as can be, without an image
        x = Check.orchestra(SWITCHES);
        for (int k = 1; k <= 201; k++) {
            x.evening(50);
            Check.due("has(5) behind " + k + " evenings", Math.min(50 * k, 9999), x.has(5));
        }
        // with it: the note itself counts; oil counts none
        x = Check.orchestra("lock a wards 2 at 0 jams 1;note n turns a 1;door d opens jams>0;");
        x.play(0);
        row(x, 0, 1, 0, 1);
        x.oil(0);
        row(x, 1, 1, 0, 0);
    }

    private static void openedOrShut() {
        LockOrchestra x = Check.orchestra("lock a wards 2 at 0;note n turns a 1;door d opens at 0=1;door e opens at 0=0;"
            + "door f opens at 0=1;door g opens at 0=0;door h opens at 0=1;door i opens at 0=0;");
        x.play(0);
        x.play(0);
        Check.due("has(8)", 12, x.has(8));
        for (int k = 0; k < 12; k++) {
            row(x, k, k / 6 + 1, k % 6, (k + k / 6 + 1) % 2);
        }
    }

    private static void lastForty() {
        LockOrchestra x = Check.orchestra(SWITCHES);
        for (int k = 1; k <= 45; k++) {
            x.play(0);
            int many = Math.min(k, 40);
            Check.due("has(8) behind " + k, many, x.has(8));
            row(x, 0, k - many + 1, 0, (k - many + 1) % 2);
            row(x, many - 1, k, 0, k % 2);
            Check.due("kept(" + many + ", 0)", -1, x.kept(many, 0));
        }
        // two at once behind thirty-nine: the oldest goes
        x = Check.orchestra(SWITCHES);
        for (int k = 0; k < 39; k++) {
            x.play(0);
        }
        Check.due("has(8)", 39, x.has(8));
        row(x, 0, 1, 0, 1);
        x.play(1);
        Check.due("has(8)", 40, x.has(8));
        row(x, 0, 2, 0, 0);
        row(x, 38, 40, 0, 0);
        row(x, 39, 40, 1, 1);
        // undone, the one that went is there again
        x.undo();
        Check.due("has(8), undone", 39, x.has(8));
        row(x, 0, 1, 0, 1);
        // an evening keeps more than forty
        x = Check.orchestra("lock a wards 2 at 0;note n turns a 1;door d opens at 0=1;");
        x.evening(50);
        Check.due("has(8) behind an evening", 40, x.has(8));
        row(x, 0, 11, 0, 1);
        row(x, 39, 50, 0, 0);
    }

    private static void pieces() {
        LockOrchestra x = Check.orchestra("lock a wards 4 at 0 jams 3;lock b wards 2 at 0;note n turns a 1;note m turns b 1;");
        Check.due("piece, all of it", 3, Check.piece(x, 0, 1, 0));
        Check.due("has(10), one act", 1, x.has(10));
        Check.due("piece, up to the first that can't be", 1, Check.piece(x, 0, 0, 1));
        Check.due("lock(1, 1): what stands behind it is not played", 1, x.lock(1, 1));
        Check.due("piece, none of it", 0, Check.piece(x, 0, 1));
        Check.due("lock(1, 1)", 1, x.lock(1, 1));
        Check.due("has(5)", 4, x.has(5));
        x.undo();
        x.undo();
        Check.due("has(5), two pieces undone", 3, x.has(5));
    }

    private static void oneOiled() {
        LockOrchestra x = Check.orchestra(FOUR_JAM + "note n turns a 1 d 1;");
        for (int lock = -1; lock <= 4; lock++) {
            Check.due("oil(" + lock + "), none jammed", false, x.oil(lock));
        }
        x.play(0);
        boolean[] due = {true, false, false, true};
        for (int lock = 0; lock < 4; lock++) {
            Check.due("oil(" + lock + ")", due[lock], x.oil(lock));
            Check.due("oil(" + lock + ") again", false, x.oil(lock));
        }
        Check.due("has(6)", 0, x.has(6));
        Check.due("has(10): those that were not jammed are no acts", 3, x.has(10));
        Check.due("status(3)", 12, x.status(3));
    }

    // ---- draws, by numbers without a bound

    private static BigInteger seed;

    private static int draw(int many) {
        seed = seed.multiply(BigInteger.valueOf(1103515245)).add(BigInteger.valueOf(12345)).mod(BigInteger.TWO.pow(31));
        return seed.divide(BigInteger.valueOf(64)).mod(BigInteger.valueOf(many)).intValue();
    }

    /** A hall of so many notes, each with a lock of its own as far as there are locks. */
    private static String hallOf(int notes, String ofLocks) {
        StringBuilder text = new StringBuilder();
        for (int k = 0; k < Math.min(notes, 4); k++) {
            text.append("lock l").append((char) ('a' + k)).append(" wards 5 at 0").append(ofLocks).append(';');
        }
        for (int k = 0; k < notes; k++) {
            text.append("note n").append((char) ('a' + k)).append(" turns l").append((char) ('a' + k % 4)).append(" ")
                .append(k < 4 ? 1 : 2).append(';');
        }
        return text.toString();
    }

    /** An evening of one turn after the other beside one that is worked out here. */
    private static void evenings(int notes, String ofLocks, int rust, int first, int turns) {
        LockOrchestra x = Check.orchestra(hallOf(notes, ofLocks) + "rust " + rust + ";");
        int locks = Math.min(notes, 4);
        int jamWard = ofLocks.isEmpty() ? -1 : 3;
        int[] wards = new int[4];
        int jams = 0;
        seed = BigInteger.valueOf(first);
        Check.due("seed(" + first + ")", true, x.seed(first));
        for (int turn = 1; turn <= turns; turn++) {
            int note = draw(notes);
            int lock = note % 4;
            boolean can = (jams >> lock & 1) == 0;
            if (can) {
                wards[lock] = (wards[lock] + (note < 4 ? 1 : 2)) % 5;
                jams |= wards[lock] == jamWard ? 1 << lock : 0;
            }
            if (draw(100) < rust) {
                jams |= 1 << draw(locks);
            }
            Check.due("evening(1), turn " + turn, can ? 1 : 0, x.evening(1));
            Check.due("has(5): a rest counts", turn, x.has(5));
            Check.due("has(6), turn " + turn, jams, x.has(6));
            for (int l = 0; l < locks; l++) {
                Check.due("lock(" + l + ", 1), turn " + turn, wards[l], x.lock(l, 1));
            }
        }
    }

    private static void drawnNotes() {
        for (int notes = 1; notes <= 6; notes++) {
            evenings(notes, "", 0, 1, 30);
            evenings(notes, " jams 3", 0, 17 * notes, 30);
        }
    }

    private static void drawnRust() {
        for (int notes = 1; notes <= 6; notes++) {
            evenings(notes, "", 100, 3, 12);
            evenings(notes, "", 50, 4, 20);
            evenings(notes, " jams 3", 9, 5, 40);
            evenings(notes, "", 1, 6 * notes, 40);
            evenings(notes, "", 99, 7, 12);
        }
        // a rust as great as what is drawn jams none, one more does
        for (int first = 0; first < 40; first++) {
            seed = BigInteger.valueOf(first);
            draw(1);
            int drawn = draw(100);
            for (int rust = drawn; rust <= drawn + 1; rust++) {
                LockOrchestra x = Check.orchestra(hallOf(1, "") + "rust " + rust + ";");
                x.seed(first);
                x.evening(1);
                Check.due("has(6), rust " + rust + ", drawn " + drawn, rust - drawn, x.has(6));
            }
        }
        // one that is jammed already may be drawn: it stays so
        LockOrchestra x = Check.orchestra(hallOf(1, "") + "rust 100;");
        Check.due("evening(3)", 1, x.evening(3));
        Check.due("has(6)", 1, x.has(6));
        Check.due("oil(0)", true, x.oil(0));
        Check.due("has(6)", 0, x.has(6));
    }

    private static void draws() {
        for (int first : new int[] {0, 1, 2, 63, 64, 1 << 30, Integer.MAX_VALUE - 1, Integer.MAX_VALUE}) {
            evenings(6, "", 0, first, 24);
            evenings(3, "", 30, first, 24);
        }
    }

    private static void lastTwenty() {
        for (int many = 18; many <= 42; many++) {
            LockOrchestra x = Check.orchestra(SWITCHES);
            for (int k = 0; k < many; k++) {
                Check.due("has(10) behind " + k, Math.min(k, 20), x.has(10));
                x.play(0);
            }
            int can = Math.min(many, 20);
            for (int k = 1; k <= can; k++) {
                Check.due("undo() " + k + " of " + many, true, x.undo());
                Check.due("has(5)", many - k, x.has(5));
                Check.due("has(7)", (many - k) % 2, x.has(7));
                Check.due("has(8)", Math.min(many - k, 40), x.has(8));
                Check.due("has(10)", can - k, x.has(10));
            }
            Check.due("undo() of more", false, x.undo());
            Check.due("has(5) stays", many - can, x.has(5));
            Check.due("status(4)", 1, x.status(4));
            // behind those undone others can be
            x.play(6);
            Check.due("has(10)", 1, x.has(10));
            Check.due("undo()", true, x.undo());
            Check.due("undo()", false, x.undo());
        }
        // acts of each kind count alike, what was refused and what is no act counts none
        LockOrchestra x = Check.orchestra("lock a wards 2 at 0 jams 1;note n turns a 1;");
        for (int k = 1; k <= 5; k++) {
            x.play(0);
            x.play(0);
            x.oil(0);
            x.oil(0);
            x.seed(k);
            Check.judge(x, 6);
            x.image();
            x.play(0);
            Check.piece(x, 6, 6);
            x.evening(1);
            x.oil(0);
            x.play(0);
            Check.due("has(10) behind " + k + " times seven", Math.min(7 * k, 20), x.has(10));
        }
        int undone = 0;
        while (undone < 30 && x.undo()) {
            undone++;
        }
        Check.due("how many were undone", 20, undone);
    }
}
