import java.util.ArrayDeque;
import java.util.ArrayList;
import java.util.Arrays;
import java.util.HashMap;
import java.util.HashSet;
import java.util.LinkedHashMap;
import java.util.List;
import java.util.Map;
import java.util.Set;

/** The document once more, written as plainly as can be, without a thought for room or time. */
final class Model {
    static final List<String> OWN = List.of("lock", "wards", "at", "jams", "note", "turns", "door", "opens", "player",
        "plays", "rust", "ward", "stuck", "number", "or", "and", "not", "all", "min", "max");

    /** Where all locks stand, which are jammed. */
    record State(List<Integer> wards, List<Boolean> jammed) {
        int jams() {
            int bits = 0;
            for (int k = 0; k < jammed.size(); k++) {
                bits |= jammed.get(k) ? 1 << k : 0;
            }
            return bits;
        }

        State with(int lock, int ward, boolean jam) {
            List<Integer> w = new ArrayList<>(wards);
            List<Boolean> j = new ArrayList<>(jammed);
            w.set(lock, ward);
            j.set(lock, jam);
            return new State(w, j);
        }
    }

    record Env(Hall hall, State state, int lock) {
    }

    interface Node {
        long value(Env e);
    }

    record Lock(String name, int wards, int first, int jam) {
    }

    record Row(String name, Map<Integer, Integer> of) {
    }

    record Door(String name, Node test) {
    }

    static final class Hall {
        final List<Lock> locks = new ArrayList<>();
        final List<Row> notes = new ArrayList<>();
        final List<Door> doors = new ArrayList<>();
        final List<Row> players = new ArrayList<>();
        int rust = 0;
        int statements = 0;

        List<String> names(int kind) {
            List<String> names = new ArrayList<>();
            switch (kind) {
                case 0 -> locks.forEach(l -> names.add(l.name));
                case 1 -> notes.forEach(l -> names.add(l.name));
                case 2 -> doors.forEach(l -> names.add(l.name));
                case 3 -> players.forEach(l -> names.add(l.name));
                default -> { }
            }
            return names;
        }

        State first() {
            List<Integer> w = new ArrayList<>();
            List<Boolean> j = new ArrayList<>();
            for (Lock l : locks) {
                w.add(l.first);
                j.add(false);
            }
            return new State(w, j);
        }

        boolean can(State s, int note) {
            if (note == 6) {
                return true;
            }
            return note >= 0 && note < notes.size() && notes.get(note).of.keySet().stream().noneMatch(s.jammed::get);
        }

        State after(State s, int note) {
            if (note == 6) {
                return s;
            }
            State t = s;
            for (Map.Entry<Integer, Integer> turn : notes.get(note).of.entrySet()) {
                int l = turn.getKey();
                int ward = (s.wards.get(l) + turn.getValue()) % locks.get(l).wards;
                t = t.with(l, ward, ward == locks.get(l).jam);
            }
            return t;
        }

        int open(State s) {
            int bits = 0;
            for (int d = 0; d < doors.size(); d++) {
                bits |= doors.get(d).test.value(new Env(this, s, -1)) != 0 ? 1 << d : 0;
            }
            return bits;
        }

        boolean isDoors(int bits) {
            return bits >= 0 && bits < 1 << doors.size();
        }

        boolean isNote(int n) {
            return n == 6 || n >= 0 && n < notes.size();
        }
    }

    static final class Fault extends RuntimeException {
        private static final long serialVersionUID = 1L;
        final int kind;
        final int place;

        Fault(int kind, int place) {
            this.kind = kind;
            this.place = place;
        }
    }

    /** A reader byte by byte, which stops at the first fault. */
    static final class Reader {
        final int[] text;
        final boolean question;
        int pos = 0;
        int deep = 0;

        Reader(int[] text, boolean question) {
            this.text = text;
            this.question = question;
        }

        int at(int p) {
            return p >= 0 && p < text.length ? text[p] : -1;
        }

        boolean letter(int p) {
            return at(p) >= 'a' && at(p) <= 'z';
        }

        boolean digit(int p) {
            return at(p) >= '0' && at(p) <= '9';
        }

        int here() {
            while (at(pos) == 10 || at(pos) == 32) {
                pos++;
            }
            return pos;
        }

        boolean joined() {
            return letter(pos - 1) || digit(pos - 1);
        }

        String word() {
            int p = here();
            if (joined()) {
                return "";
            }
            StringBuilder b = new StringBuilder();
            for (; letter(p); p++) {
                b.append((char) at(p));
            }
            return b.toString();
        }

        boolean sees(String what) {
            here();
            if (what.charAt(0) >= 'a' && what.charAt(0) <= 'z') {
                return word().equals(what);
            }
            return at(pos) == what.charAt(0);
        }

        boolean takes(String what) {
            boolean there = sees(what);
            pos += there ? what.length() : 0;
            return there;
        }

        void needs(String what) {
            if (!takes(what)) {
                throw new Fault(1, here());
            }
        }

        int number(int least, int most) {
            int from = here();
            if (joined() || !digit(from)) {
                throw new Fault(1, from);
            }
            int v = 0;
            for (; digit(pos); pos++) {
                if (pos - from == 4) {
                    throw new Fault(1, pos);
                }
                v = v * 10 + at(pos) - '0';
            }
            if (v < least || v > most) {
                throw new Fault(2, from);
            }
            return v;
        }

        String name() {
            int from = here();
            String w = word();
            if (w.isEmpty() || OWN.contains(w)) {
                throw new Fault(1, from);
            }
            if (w.length() > 6) {
                throw new Fault(1, from + 6);
            }
            pos += w.length();
            return w;
        }

        Hall hall() {
            Hall h = new Hall();
            while (here() < text.length) {
                int from = pos;
                String kind = word();
                int which = List.of("lock", "note", "door", "player", "rust").indexOf(kind);
                if (h.statements == 60) {
                    throw new Fault(5, from);
                }
                if (which < 0) {
                    throw new Fault(1, from);
                }
                if (which < 4 && h.names(which).size() == new int[] {4, 6, 6, 5}[which]) {
                    throw new Fault(5, from);
                }
                pos += kind.length();
                statement(h, which);
                needs(";");
                h.statements++;
            }
            return h;
        }

        void statement(Hall h, int which) {
            if (which == 4) {
                h.rust = number(0, 100);
                return;
            }
            int from = here();
            String name = name();
            for (int k = 0; k < 4; k++) {
                if (h.names(k).contains(name)) {
                    throw new Fault(3, from);
                }
            }
            if (which == 0) {
                needs("wards");
                int wards = number(2, 5);
                needs("at");
                int at = number(0, wards - 1);
                h.locks.add(new Lock(name, wards, at, takes("jams") ? number(0, wards - 1) : -1));
            } else if (which == 2) {
                needs("opens");
                h.doors.add(new Door(name, test()));
            } else {
                needs(which == 1 ? "turns" : "plays");
                Map<Integer, Integer> of = new LinkedHashMap<>();
                do {
                    int place = here();
                    int known = h.names(which == 1 ? 0 : 1).indexOf(name());
                    if (known < 0 || of.containsKey(known)) {
                        throw new Fault(3, place);
                    }
                    of.put(known, which == 1 ? number(1, 4) : 1);
                } while (!word().isEmpty());
                (which == 1 ? h.notes : h.players).add(new Row(name, of));
            }
        }

        void opens(String what) {
            int from = here();
            if (++deep == 7) {
                throw new Fault(4, from);
            }
            pos += what.length();
        }

        Node test() {
            Node left = both();
            while (takes("or")) {
                Node a = left;
                Node b = both();
                left = e -> a.value(e) != 0 || b.value(e) != 0 ? 1 : 0;
            }
            return left;
        }

        Node both() {
            Node left = fact();
            while (takes("and")) {
                Node a = left;
                Node b = fact();
                left = e -> a.value(e) != 0 && b.value(e) != 0 ? 1 : 0;
            }
            return left;
        }

        Node fact() {
            if (sees("not")) {
                opens("not");
                Node a = fact();
                deep--;
                return e -> a.value(e) != 0 ? 0 : 1;
            }
            if (sees("[")) {
                opens("[");
                Node a = test();
                needs("]");
                deep--;
                return a;
            }
            if (takes("all")) {
                return e -> 1;
            }
            Node a = sum();
            int sign = at(here());
            if (sign != '<' && sign != '>' && sign != '=') {
                throw new Fault(1, pos);
            }
            pos++;
            Node b = sum();
            return e -> {
                int c = Long.compare(a.value(e), b.value(e));
                return (sign == '<' ? c < 0 : sign == '>' ? c > 0 : c == 0) ? 1 : 0;
            };
        }

        static long within(long v) {
            return v > 1000000 ? 1000000 : v < -1000000 ? -1000000 : v;
        }

        Node sum() {
            Node left = product();
            while (sees("+") || sees("-")) {
                Node a = left;
                boolean plus = at(pos++) == '+';
                Node b = product();
                left = e -> within(a.value(e) + (plus ? b.value(e) : -b.value(e)));
            }
            return left;
        }

        Node product() {
            Node left = part();
            while (sees("*") || sees("/")) {
                Node a = left;
                boolean times = at(pos++) == '*';
                Node b = part();
                left = e -> times ? within(a.value(e) * b.value(e)) : floor(a.value(e), b.value(e));
            }
            return left;
        }

        static long floor(long a, long b) {
            return b == 0 ? 0 : (long) Math.floor((double) a / b);
        }

        Node part() {
            int from = here();
            if (digit(from) && !joined()) {
                int n = number(0, 9999);
                return e -> n;
            }
            if (takes("jams")) {
                return e -> e.state.jammed.stream().filter(j -> j).count();
            }
            if (sees("at")) {
                opens("at");
                Node a = part();
                deep--;
                return e -> {
                    long k = a.value(e);
                    return k >= 0 && k < e.state.wards.size() ? e.state.wards.get((int) k) : -1;
                };
            }
            if (sees("(")) {
                opens("(");
                Node a = sum();
                needs(")");
                deep--;
                return a;
            }
            if (sees("min") || sees("max")) {
                boolean min = sees("min");
                pos += 3;
                if (!sees("(")) {
                    throw new Fault(1, pos);
                }
                opens("(");
                Node a = sum();
                needs(",");
                Node b = sum();
                needs(")");
                deep--;
                return e -> min ? Math.min(a.value(e), b.value(e)) : Math.max(a.value(e), b.value(e));
            }
            if (question) {
                return lockPart();
            }
            throw new Fault(1, from);
        }

        Node lockPart() {
            if (takes("number")) {
                return e -> e.lock;
            }
            if (takes("wards")) {
                return e -> e.hall.locks.get(e.lock).wards;
            }
            if (takes("ward")) {
                return e -> e.state.wards.get(e.lock);
            }
            if (takes("stuck")) {
                return e -> e.state.jammed.get(e.lock) ? 1 : 0;
            }
            if (sees("turns")) {
                opens("turns");
                Node a = part();
                deep--;
                return e -> {
                    long k = a.value(e);
                    return k >= 0 && k < e.hall.notes.size() ? e.hall.notes.get((int) k).of.getOrDefault(e.lock, 0) : 0;
                };
            }
            throw new Fault(1, here());
        }
    }

    record Past(State state, int played, List<int[]> kept) {
    }

    private List<Integer> tape = new ArrayList<>();
    private Hall hall = new Hall();
    private State state = hall.first();
    private int played = 0;
    private List<int[]> kept = new ArrayList<>();
    private final ArrayDeque<Past> past = new ArrayDeque<>();
    private final int[] refused = new int[6];
    private int[] fault = {0, -1};
    private int[] judged = null;
    private int[] slipped = null;
    private int[] heard = new int[0];
    private int[] image = new int[0];
    private long x = 1;

    private int refuse(int k) {
        refused[k]++;
        return -1;
    }

    private int[] taken() {
        int[] bytes = tape.stream().mapToInt(k -> k).toArray();
        tape = new ArrayList<>();
        return bytes;
    }

    private int[] takenPiece() {
        int[] p = taken();
        return p.length <= 20 && Arrays.stream(p).allMatch(hall::isNote) ? p : null;
    }

    int feed(int... numbers) {
        if (tape.size() + 20 > 1600) {
            return refuse(0);
        }
        for (int n : numbers) {
            for (int k = 3; k >= 0; k--) {
                tape.add(n >> 8 * k & 255);
            }
        }
        return tape.size();
    }

    boolean end(int n) {
        if (n < 0 || n > tape.size()) {
            return refuse(0) == 0;
        }
        tape = new ArrayList<>(tape.subList(0, n));
        return true;
    }

    int hall() {
        try {
            hall = new Reader(taken(), false).hall();
        } catch (Fault f) {
            fault = new int[] {f.kind, f.place};
            return refuse(1);
        }
        fault = new int[] {0, -1};
        start(hall.first(), 0);
        judged = null;
        slipped = null;
        heard = new int[0];
        return hall.statements;
    }

    private void start(State s, int n) {
        state = s;
        played = n;
        kept = new ArrayList<>();
        past.clear();
    }

    int fault(int what) {
        return what == 0 || what == 1 ? fault[what] : -1;
    }

    private int told() {
        return Math.min(40, kept.size());
    }

    int has(int what) {
        return switch (what) {
            case 0, 1, 2, 3 -> hall.names(what).size();
            case 4 -> hall.rust;
            case 5 -> played;
            case 6 -> state.jams();
            case 7 -> hall.open(state);
            case 8 -> told();
            case 9 -> heard.length / 2;
            case 10 -> past.size();
            default -> -1;
        };
    }

    int letter(int kind, int which, int k) {
        List<String> names = hall.names(kind);
        if (which < 0 || which >= names.size() || k < 0 || k > 5) {
            return -1;
        }
        return k < names.get(which).length() ? names.get(which).charAt(k) - 'a' + 1 : 0;
    }

    int lock(int lock, int what) {
        if (lock < 0 || lock >= hall.locks.size()) {
            return -1;
        }
        Lock l = hall.locks.get(lock);
        return switch (what) {
            case 0 -> l.wards;
            case 1 -> state.wards.get(lock);
            case 2 -> l.first;
            case 3 -> l.jam;
            case 4 -> state.jammed.get(lock) ? 1 : 0;
            default -> -1;
        };
    }

    int note(int note, int what) {
        if (note < 0 || note >= hall.notes.size()) {
            return -1;
        }
        if (what == 0) {
            return hall.can(state, note) ? 1 : 0;
        }
        if (what == 1) {
            return who(note);
        }
        return what >= 10 && what < 10 + hall.locks.size() ? hall.notes.get(note).of.getOrDefault(what - 10, 0) : -1;
    }

    private int who(int note) {
        int bits = 0;
        for (int p = 0; p < hall.players.size(); p++) {
            bits |= hall.players.get(p).of.containsKey(note) ? 1 << p : 0;
        }
        return bits;
    }

    int door(int door) {
        return door >= 0 && door < hall.doors.size() ? hall.open(state) >> door & 1 : -1;
    }

    int player(int player) {
        if (player < 0 || player >= hall.players.size()) {
            return -1;
        }
        return hall.players.get(player).of.keySet().stream().mapToInt(n -> 1 << n).sum();
    }

    int kept(int k, int what) {
        if (k < 0 || k >= told() || what < 0 || what > 2) {
            return -1;
        }
        return kept.get(kept.size() - told() + k)[what];
    }

    int judge() {
        int[] p = takenPiece();
        if (p == null) {
            return refuse(1);
        }
        State s = state;
        int opened = 0;
        int n = 0;
        while (n < p.length && hall.can(s, p[n])) {
            State t = hall.after(s, p[n++]);
            opened += Integer.bitCount(hall.open(t) & ~hall.open(s));
            s = t;
        }
        judged = new int[] {hall.open(s), s.jams(), opened};
        return n;
    }

    int judged(int what) {
        return judged == null || what < 0 || what > 2 ? -1 : judged[what];
    }

    interface Goal {
        boolean is(State s);
    }

    /** All shortest pieces level by level, in their order: the first one that gets there. */
    private List<Integer> way(Goal goal, int without, Set<State> seen) {
        Map<State, List<Integer>> level = new LinkedHashMap<>();
        level.put(state, List.of());
        seen.add(state);
        while (!level.isEmpty()) {
            for (Map.Entry<State, List<Integer>> one : level.entrySet()) {
                if (goal.is(one.getKey())) {
                    return one.getValue();
                }
            }
            Map<State, List<Integer>> next = new LinkedHashMap<>();
            for (Map.Entry<State, List<Integer>> one : level.entrySet()) {
                for (int n = 0; n < hall.notes.size(); n++) {
                    if ((without >> n & 1) == 0 && hall.can(one.getKey(), n)) {
                        State t = hall.after(one.getKey(), n);
                        if (seen.add(t)) {
                            List<Integer> longer = new ArrayList<>(one.getValue());
                            longer.add(n);
                            next.put(t, longer);
                        }
                    }
                }
            }
            level = next;
        }
        return null;
    }

    private static int told(List<Integer> way, int k) {
        if (way == null) {
            return -1;
        }
        return k == -1 ? way.size() : k >= 0 && k < way.size() ? way.get(k) : -1;
    }

    int shortest(int doors, int k) {
        return hall.isDoors(doors) ? told(way(s -> hall.open(s) == doors, 0, new HashSet<>()), k) : -1;
    }

    int back(int k) {
        return told(way(s -> s.equals(hall.first()), 0, new HashSet<>()), k);
    }

    int states() {
        Set<State> seen = new HashSet<>();
        way(s -> false, 0, seen);
        return seen.size();
    }

    int forbid(int doors) {
        if (!hall.isDoors(doors) || (hall.open(state) & doors) == doors) {
            return -1;
        }
        int best = -1;
        for (int bits = 0; bits < 1 << hall.notes.size(); bits++) {
            if ((best == -1 || Integer.bitCount(bits) < Integer.bitCount(best))
                && way(s -> (hall.open(s) & doors) == doors, bits, new HashSet<>()) == null) {
                best = bits;
            }
        }
        return best;
    }

    /** Tries all players for each note in turn. */
    private boolean shares(int[] p, int k, int before, int set, Map<List<Integer>, Boolean> known) {
        if (k == p.length) {
            return true;
        }
        if (p[k] == 6) {
            return shares(p, k + 1, -1, set, known);
        }
        List<Integer> key = List.of(k, before, set);
        if (known.containsKey(key)) {
            return known.get(key);
        }
        boolean can = false;
        for (int who = 0; who < hall.players.size() && !can; who++) {
            can = (set >> who & 1) == 1 && who != before && (who(p[k]) >> who & 1) == 1 && shares(p, k + 1, who, set, known);
        }
        known.put(key, can);
        return can;
    }

    int share() {
        int[] p = takenPiece();
        if (p == null) {
            return refuse(1);
        }
        int best = -1;
        for (int set = 0; set < 1 << hall.players.size(); set++) {
            if ((best == -1 || Integer.bitCount(set) < Integer.bitCount(best)) && shares(p, 0, -1, set, new HashMap<>())) {
                best = set;
            }
        }
        return best;
    }

    int slip(int doors) {
        int[] p = takenPiece();
        if (p == null || !hall.isDoors(doors)) {
            return refuse(1);
        }
        slipped = null;
        int many = 0;
        for (int k = 0; k < p.length; k++) {
            for (int n = 0; n <= 6; n++) {
                if (!hall.isNote(n) || n == p[k]) {
                    continue;
                }
                int[] other = p.clone();
                other[k] = n;
                State s = state;
                for (int o : other) {
                    s = s != null && hall.can(s, o) ? hall.after(s, o) : null;
                }
                if (s != null && hall.open(s) == doors) {
                    many++;
                    slipped = slipped == null ? new int[] {k, n} : slipped;
                }
            }
        }
        return many;
    }

    int slipped(int what) {
        return slipped == null || what < 0 || what > 1 ? -1 : slipped[what];
    }

    int hear() {
        int[] rows = taken();
        boolean good = rows.length >= 2 && rows.length <= 40 && rows.length % 2 == 0;
        for (int k = 0; good && k < rows.length; k += 2) {
            good = hall.isNote(rows[k]) && hall.isDoors(rows[k + 1]);
        }
        if (!good) {
            return refuse(1);
        }
        heard = rows;
        return rows.length / 2;
    }

    private void ways(List<Integer> wards, List<State> all) {
        // the last lock is the slowest: put wards in front
        int lock = hall.locks.size() - wards.size() - 1;
        if (lock < 0) {
            List<Boolean> none = new ArrayList<>();
            wards.forEach(w -> none.add(false));
            all.add(new State(wards, none));
            return;
        }
        for (int w = 0; w < hall.locks.get(lock).wards; w++) {
            List<Integer> longer = new ArrayList<>(wards);
            longer.add(0, w);
            ways(longer, all);
        }
    }

    int starts(int what) {
        if (heard.length == 0 || what < 0 || what > 2) {
            return -1;
        }
        List<State> all = new ArrayList<>();
        ways(new ArrayList<>(), all);
        List<Integer> good = new ArrayList<>();
        for (int k = 0; k < all.size(); k++) {
            State s = all.get(k);
            for (int r = 0; r < heard.length && s != null; r += 2) {
                s = hall.can(s, heard[r]) ? hall.after(s, heard[r]) : null;
                s = s != null && hall.open(s) == heard[r + 1] ? s : null;
            }
            if (s != null) {
                good.add(k);
            }
        }
        if (what == 0) {
            return good.size();
        }
        return good.isEmpty() ? -1 : good.get(what == 1 ? 0 : good.size() - 1);
    }

    int hangs(int door) {
        if (door < 0 || door >= hall.doors.size()) {
            return -1;
        }
        int bits = 0;
        for (int l = 0; l < hall.locks.size(); l++) {
            int many = hall.locks.get(l).wards;
            for (int by = 1; by < many; by++) {
                State s = state.with(l, (state.wards.get(l) + by) % many, state.jammed.get(l));
                bits |= (hall.open(s) >> door & 1) != (hall.open(state) >> door & 1) ? 1 << l : 0;
            }
        }
        return bits;
    }

    private void act() {
        past.addLast(new Past(state, played, new ArrayList<>(kept)));
        if (past.size() > 20) {
            past.removeFirst();
        }
    }

    private void keep(State before) {
        int was = hall.open(before);
        int is = hall.open(state);
        for (int d = 0; d < hall.doors.size(); d++) {
            if ((was >> d & 1) != (is >> d & 1)) {
                kept.add(new int[] {played, d, is >> d & 1});
            }
        }
    }

    private void playOne(int note) {
        State before = state;
        state = hall.after(state, note);
        played = played == 9999 ? 9999 : played + 1;
        keep(before);
    }

    int play(int note) {
        if (!hall.can(state, note)) {
            return refuse(2);
        }
        act();
        playOne(note);
        return hall.open(state);
    }

    int piece() {
        int[] p = takenPiece();
        if (p == null || p.length == 0) {
            return refuse(2);
        }
        act();
        int n = 0;
        while (n < p.length && hall.can(state, p[n])) {
            playOne(p[n++]);
        }
        return n;
    }

    boolean oil(int lock) {
        if (lock < 0 || lock >= hall.locks.size() || !state.jammed.get(lock)) {
            return refuse(3) == 0;
        }
        act();
        State before = state;
        state = state.with(lock, state.wards.get(lock), false);
        keep(before);
        return true;
    }

    private int draw(int m) {
        x = (1103515245L * x + 12345L) % (1L << 31);
        return (int) (x / 64 % m);
    }

    int evening(int n) {
        if (n < 1 || n > 50 || hall.notes.isEmpty()) {
            return refuse(3);
        }
        act();
        int many = 0;
        for (int k = 0; k < n; k++) {
            int note = draw(hall.notes.size());
            boolean can = hall.can(state, note);
            playOne(can ? note : 6);
            many += can ? 1 : 0;
            if (draw(100) < hall.rust) {
                int lock = draw(hall.locks.size());
                state = state.with(lock, state.wards.get(lock), true);
            }
        }
        return many;
    }

    boolean undo() {
        if (past.isEmpty()) {
            return refuse(4) == 0;
        }
        Past p = past.removeLast();
        state = p.state;
        played = p.played;
        kept = p.kept;
        return true;
    }

    boolean seed(int seed) {
        if (seed < 0) {
            return refuse(5) == 0;
        }
        x = seed;
        return true;
    }

    long ask() {
        Reader r = new Reader(taken(), true);
        try {
            String what = r.word();
            int from = r.here();
            if (!List.of("first", "last", "often", "total", "most", "least").contains(what)) {
                throw new Fault(1, from);
            }
            r.pos += what.length();
            Node n = List.of("first", "last", "often").contains(what) ? r.test() : r.sum();
            if (r.here() < r.text.length) {
                throw new Fault(1, r.pos);
            }
            fault = new int[] {0, -1};
            return answer(what, n);
        } catch (Fault f) {
            fault = new int[] {f.kind, f.place};
            return -1000000000000000L;
        }
    }

    private long answer(String what, Node n) {
        List<Long> values = new ArrayList<>();
        for (int l = 0; l < hall.locks.size(); l++) {
            values.add(n.value(new Env(hall, state, l)));
        }
        return switch (what) {
            case "first" -> values.indexOf(1L);
            case "last" -> values.lastIndexOf(1L);
            case "often", "total" -> values.stream().mapToLong(v -> v).sum();
            case "most" -> values.stream().mapToLong(v -> v).max().orElse(0);
            default -> values.stream().mapToLong(v -> v).min().orElse(0);
        };
    }

    private static int check(int[] bytes, int n) {
        int c = 11;
        for (int k = 0; k < n; k++) {
            c = (3 * c + bytes[k]) % 251;
        }
        return c;
    }

    int image() {
        image = new int[3 + 2 * hall.locks.size()];
        image[0] = played >> 8;
        image[1] = played & 255;
        for (int l = 0; l < hall.locks.size(); l++) {
            image[2 + 2 * l] = state.wards.get(l);
            image[3 + 2 * l] = state.jammed.get(l) ? 1 : 0;
        }
        image[image.length - 1] = check(image, image.length - 1);
        return image.length;
    }

    int octet(int k) {
        return k >= 0 && k < image.length ? image[k] : -1;
    }

    boolean on() {
        int[] b = taken();
        int n = hall.locks.size();
        boolean good = b.length == 3 + 2 * n && b[b.length - 1] == check(b, b.length - 1) && b[0] * 256 + b[1] <= 9999;
        State s = hall.first();
        for (int l = 0; good && l < n; l++) {
            good = b[2 + 2 * l] < hall.locks.get(l).wards && b[3 + 2 * l] < 2;
            s = good ? s.with(l, b[2 + 2 * l], b[3 + 2 * l] == 1) : s;
        }
        if (!good) {
            return refuse(5) == 0;
        }
        start(s, b[0] * 256 + b[1]);
        return true;
    }

    int status(int what) {
        return what >= 0 && what < 6 ? refused[what] : -1;
    }
}
