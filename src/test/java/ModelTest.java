import java.util.ArrayList;
import java.util.List;
import java.util.Random;

/** Promises 1 to 35 over runs of drawn calls: each answer is compared with the model's. */
public final class ModelTest {
    private static final String[] NAMES = {"a", "b", "c", "d", "e", "f", "g", "do", "re", "mi", "ann", "bob", "gate",
        "hatch", "zzzzzz", "first", "total"};
    private static final String[] BITS = {"lock", "note", "door", "player", "rust", "at", "jams", "wards", "turns", "plays",
        "opens", "all", "not", "or", "and", "min", "max", "ward", "stuck", "number", "(", ")", "[", "]", ";", ",", "+", "-",
        "*", "/", "<", ">", "=", "0", "1", "2", "3", "4", "5", "100", "12345", "a", "b", "do", "abcdefg", "X", " ", "\n",
        "first", "often", "total", "least"};

    private final Random random;
    private final LockOrchestra x = new LockOrchestra();
    private final Model m = new Model();
    private final List<String> locks = new ArrayList<>();
    private final List<String> notes = new ArrayList<>();
    private int calls = 0;
    private final int run;

    private ModelTest(int run) {
        this.run = run;
        random = new Random(run);
    }

    public static void main(String[] args) {
        int runs = args.length > 0 ? Integer.parseInt(args[0]) : 400;
        for (int run = 1; run <= runs; run++) {
            new ModelTest(run).go();
        }
        Check.end("ModelTest");
    }

    private void go() {
        boolean manyHalls = random.nextInt(4) == 0;
        putHall(random.nextInt(12) == 0);
        while (calls < 490) {
            int k = random.nextInt(100);
            if (k < (manyHalls ? 30 : 1)) {
                putHall(random.nextInt(2) == 0);
            } else if (k < 40) {
                act();
            } else if (k < 60) {
                search();
            } else if (k < 72) {
                question();
            } else {
                look();
            }
        }
    }

    private void due(String call, long want, long got) {
        calls++;
        Check.due("run " + run + ", call " + calls + ": " + call, want, got);
    }

    private int pick(int n) {
        return random.nextInt(n);
    }

    private int near(int n) {
        int k = pick(40);
        return k == 0 ? Integer.MIN_VALUE : k == 1 ? Integer.MAX_VALUE : k == 2 ? -1 : pick(n + 1);
    }

    // ---- the tape

    private void put(int[] bytes) {
        for (int from = 0; from < bytes.length; from += 20) {
            int[] f = new int[5];
            for (int k = 0; k < 20; k++) {
                f[k / 4] = f[k / 4] << 8 | (from + k < bytes.length ? bytes[from + k] & 255 : 32);
            }
            due("feed", m.feed(f), x.feed(f[0], f[1], f[2], f[3], f[4]));
        }
        due("end", m.end(bytes.length) ? 1 : 0, x.end(bytes.length) ? 1 : 0);
    }

    private void put(String text) {
        put(text.chars().toArray());
    }

    private int[] bytes(int most) {
        int[] b = new int[pick(most + 1)];
        for (int k = 0; k < b.length; k++) {
            b[k] = pick(8) == 0 ? 6 : pick(60) == 0 ? pick(9) : pick(Math.max(1, m.has(1)));
            b[k] = m.has(1) == 0 && pick(20) != 0 ? 6 : b[k];
        }
        return b;
    }

    // ---- texts

    private String blank() {
        int k = pick(8);
        return k == 0 ? "\n" : k == 1 ? "  " : " ";
    }

    private String sum(int deep, boolean ofLock) {
        StringBuilder b = new StringBuilder(part(deep, ofLock));
        for (int k = pick(3); k > 0; k--) {
            b.append("+-*/".charAt(pick(4))).append(blank()).append(part(deep, ofLock));
        }
        return b.toString();
    }

    private String part(int deep, boolean ofLock) {
        int k = pick(deep > 0 ? 12 : 6);
        switch (k) {
            case 0, 1, 2:
                return "" + (pick(10) == 0 ? pick(10000) : pick(6));
            case 3:
                return "jams";
            case 4:
                return ofLock ? new String[] {"number", "wards", "ward", "stuck"}[pick(4)] : "at " + pick(5);
            case 5, 6:
                return "at " + (deep > 0 ? part(deep - 1, ofLock) : "" + pick(4));
            case 7:
                return "(" + sum(deep - 1, ofLock) + ")";
            case 8:
                return "min(" + sum(deep - 1, ofLock) + "," + sum(deep - 1, ofLock) + ")";
            case 9:
                return "max (" + sum(deep - 1, ofLock) + " , " + sum(deep - 1, ofLock) + " )";
            case 10:
                return ofLock ? "turns " + part(deep - 1, ofLock) : "at " + pick(4);
            default:
                return "" + pick(4) + " * " + part(deep - 1, ofLock);
        }
    }

    private String fact(int deep, boolean ofLock) {
        int k = pick(deep > 0 ? 10 : 6);
        if (k == 6 || k == 7) {
            return "not " + fact(deep - 1, ofLock);
        }
        if (k == 8) {
            return "[" + test(deep - 1, ofLock) + "]";
        }
        if (k == 5 && pick(4) == 0) {
            return "all";
        }
        return sum(deep, ofLock) + "<>=".charAt(pick(3)) + sum(deep, ofLock);
    }

    private String test(int deep, boolean ofLock) {
        StringBuilder b = new StringBuilder(fact(deep, ofLock));
        for (int k = pick(3); k > 0; k--) {
            b.append(pick(2) == 0 ? " or " : " and\n").append(fact(deep, ofLock));
        }
        return b.toString();
    }

    private String name() {
        return NAMES[pick(NAMES.length)];
    }

    private String fresh(List<String> used) {
        String name = name();
        for (int k = 0; k < 40 && used.contains(name) && pick(200) != 0; k++) {
            name = name();
        }
        used.add(name);
        return name;
    }

    /** One that is open in some states and shut in others. */
    private String doorTest() {
        String one = "at " + pick(Math.max(1, locks.size())) + "=<>".charAt(pick(3)) + (1 + pick(3));
        String two = pick(3) == 0 ? "jams>" + pick(3) : "at " + pick(4) + "+at " + pick(4) + ">" + pick(5);
        return pick(2) == 0 ? one : one + (pick(2) == 0 ? " and not " : " or ") + two;
    }

    private void hallText(StringBuilder b) {
        List<String> used = new ArrayList<>();
        locks.clear();
        notes.clear();
        for (int k = pick(8) == 0 ? pick(6) : 1 + pick(4); k > 0; k--) {
            locks.add(fresh(used));
            int wards = 2 + pick(4);
            b.append("lock ").append(locks.get(locks.size() - 1)).append(blank()).append("wards ").append(wards);
            b.append(" at ").append(pick(wards));
            if (pick(3) == 0) {
                b.append(" jams ").append(pick(wards));
            }
            b.append(blank()).append(";");
        }
        for (int k = locks.isEmpty() ? 0 : pick(8) == 0 ? pick(8) : 2 + pick(5); k > 0; k--) {
            notes.add(fresh(used));
            b.append("note ").append(notes.get(notes.size() - 1)).append(" turns");
            boolean one = false;
            for (String lock : locks) {
                if (pick(3) == 0) {
                    one = true;
                    b.append(blank()).append(lock).append(blank()).append(1 + pick(4));
                }
            }
            b.append(one ? "" : " " + locks.get(pick(locks.size())) + " 1").append(";");
        }
        for (int k = pick(7); k > 0; k--) {
            String test = pick(3) == 0 ? test(pick(3), false) : doorTest();
            b.append("door ").append(fresh(used)).append(" opens ").append(test).append(";\n");
        }
        for (int k = notes.isEmpty() ? 0 : pick(6); k > 0; k--) {
            b.append("player ").append(fresh(used)).append(" plays");
            boolean one = false;
            for (String note : notes) {
                if (pick(2) == 0) {
                    one = true;
                    b.append(blank()).append(note);
                }
            }
            b.append(one ? "" : " " + notes.get(0)).append(";");
        }
        for (int k = pick(3); k > 0; k--) {
            b.append("rust ").append(pick(4) == 0 ? pick(102) : pick(30)).append(";");
        }
    }

    private String spoilt(String text) {
        StringBuilder b = new StringBuilder(text);
        for (int k = 1 + pick(2); k > 0; k--) {
            int at = pick(b.length() + 1);
            switch (pick(4)) {
                case 0:
                    b.insert(at, BITS[pick(BITS.length)]);
                    break;
                case 1:
                    b.delete(at, Math.min(b.length(), at + 1 + pick(3)));
                    break;
                case 2:
                    b.replace(at, Math.min(b.length(), at + 1), BITS[pick(BITS.length)]);
                    break;
                default:
                    b.setLength(pick(3) == 0 ? at : b.length());
                    break;
            }
        }
        return b.toString();
    }

    private void putHall(boolean spoil) {
        StringBuilder b = new StringBuilder();
        do {
            b.setLength(0);
            hallText(b);
        } while (b.length() > 1500);
        put(spoil ? spoilt(b.toString()) : b.toString());
        due("hall() of " + b, m.hall(), x.hall());
        due("fault(0)", m.fault(0), x.fault(0));
        due("fault(1)", m.fault(1), x.fault(1));
    }

    private void question() {
        int what = pick(6);
        String word = new String[] {"first ", "last\n", "often ", "total ", "most ", "least "}[what];
        String text = word + (what < 3 ? test(pick(3), true) : sum(pick(4), true));
        text = pick(3) == 0 ? spoilt(text) : text;
        put(text);
        due("ask() of " + text, m.ask(), x.ask());
        due("fault(0) of " + text, m.fault(0), x.fault(0));
        due("fault(1) of " + text, m.fault(1), x.fault(1));
    }

    // ---- calls

    private void act() {
        int k;
        switch (pick(12)) {
            case 0, 1, 2, 3:
                k = pick(8) == 0 ? 6 : near(6);
                due("play(" + k + ")", m.play(k), x.play(k));
                break;
            case 4:
                put(bytes(22));
                due("piece()", m.piece(), x.piece());
                break;
            case 5, 6:
                k = near(4);
                due("oil(" + k + ")", m.oil(k) ? 1 : 0, x.oil(k) ? 1 : 0);
                break;
            case 7, 8:
                k = pick(4) == 0 ? near(51) : 1 + pick(6);
                due("evening(" + k + ")", m.evening(k), x.evening(k));
                break;
            case 9, 10:
                due("undo()", m.undo() ? 1 : 0, x.undo() ? 1 : 0);
                break;
            default:
                turnOn();
                break;
        }
        due("has(7)", m.has(7), x.has(7));
        due("has(6)", m.has(6), x.has(6));
        due("has(5)", m.has(5), x.has(5));
        due("has(8)", m.has(8), x.has(8));
    }

    private void turnOn() {
        if (pick(2) == 0) {
            int k = near(1000000000);
            due("seed(" + k + ")", m.seed(k) ? 1 : 0, x.seed(k) ? 1 : 0);
            return;
        }
        int[] b = new int[3 + 2 * m.has(0)];
        int played = pick(3) == 0 ? 9990 + pick(12) : pick(10000);
        b[0] = played / 256;
        b[1] = played % 256;
        for (int l = 0; l < m.has(0); l++) {
            b[2 + 2 * l] = pick(m.lock(l, 0) + (pick(30) == 0 ? 1 : 0));
            b[3 + 2 * l] = pick(40) == 0 ? 2 : pick(3) / 2;
        }
        int c = 11;
        for (int k = 0; k < b.length - 1; k++) {
            c = (3 * c + b[k]) % 251;
        }
        b[b.length - 1] = pick(20) == 0 ? c + 1 : c;
        put(pick(20) == 0 ? java.util.Arrays.copyOf(b, b.length + pick(3) - 1) : b);
        due("on()", m.on() ? 1 : 0, x.on() ? 1 : 0);
    }

    private void search() {
        int doors = pick(30) == 0 ? near(200) : pick(1 << m.has(2));
        int k = near(8) - 1;
        switch (pick(9)) {
            case 0:
                put(bytes(21));
                due("judge()", m.judge(), x.judge());
                break;
            case 1:
                due("shortest(" + doors + ", -1)", m.shortest(doors, -1), x.shortest(doors, -1));
                due("shortest(" + doors + ", " + k + ")", m.shortest(doors, k), x.shortest(doors, k));
                break;
            case 2:
                due("back(-1)", m.back(-1), x.back(-1));
                due("back(" + k + ")", m.back(k), x.back(k));
                break;
            case 3:
                due("states()", m.states(), x.states());
                break;
            case 4:
                due("forbid(" + doors + ")", m.forbid(doors), x.forbid(doors));
                break;
            case 5:
                put(bytes(pick(2) == 0 ? 5 : 21));
                due("share()", m.share(), x.share());
                break;
            case 6:
                put(bytes(pick(2) == 0 ? 4 : 21));
                due("slip(" + doors + ")", m.slip(doors), x.slip(doors));
                break;
            default:
                putHeard();
                due("hear()", m.hear(), x.hear());
                break;
        }
    }

    private void putHeard() {
        int[] b = new int[pick(20) == 0 ? pick(44) : 2 * (1 + pick(3))];
        for (int k = 0; k < b.length; k++) {
            b[k] = k % 2 == 0 ? pick(Math.max(1, m.has(1))) : pick(3) != 0 ? m.has(7) : pick(1 << m.has(2));
            b[k] = k % 2 == 0 && (pick(6) == 0 || m.has(1) == 0) ? 6 : b[k];
            b[k] = pick(80) == 0 ? pick(256) : b[k];
        }
        put(b);
    }

    private void look() {
        int a = near(6);
        int b = near(10);
        int c = near(6);
        switch (pick(19)) {
            case 0 -> due("fault(" + a + ")", m.fault(a), x.fault(a));
            case 1 -> due("has(" + b + ")", m.has(b), x.has(b));
            case 2 -> due("letter(" + a + ", " + c + ", 0)", m.letter(a, c, 0), x.letter(a, c, 0));
            case 3 -> due("letter(" + a + ", 0, " + c + ")", m.letter(a, 0, c), x.letter(a, 0, c));
            case 4 -> due("lock(" + a + ", " + c + ")", m.lock(a, c), x.lock(a, c));
            case 5 -> due("note(" + a + ", " + c + ")", m.note(a, c), x.note(a, c));
            case 6 -> due("note(" + a + ", 10+" + c + ")", m.note(a, 10 + c), x.note(a, 10 + c));
            case 7 -> due("door(" + a + ")", m.door(a), x.door(a));
            case 8 -> due("player(" + a + ")", m.player(a), x.player(a));
            case 9 -> keptRow();
            case 10 -> due("judged(" + a + ")", m.judged(a), x.judged(a));
            case 11 -> due("slipped(" + a + ")", m.slipped(a), x.slipped(a));
            case 12, 13 -> due("starts(" + a + ")", m.starts(a), x.starts(a));
            case 14, 15 -> due("hangs(" + a + ")", m.hangs(a), x.hangs(a));
            case 16 -> due("image()", m.image(), x.image());
            case 17 -> due("octet(" + b + ")", m.octet(b), x.octet(b));
            default -> due("status(" + a + ")", m.status(a), x.status(a));
        }
    }

    private void keptRow() {
        int k = near(Math.max(1, m.has(8)));
        for (int what = 0; what < 4; what++) {
            due("kept(" + k + ", " + what + ")", m.kept(k, what), x.kept(k, what));
        }
    }
}
