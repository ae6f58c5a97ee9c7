import java.lang.reflect.InvocationTargetException;
import java.lang.reflect.Method;
import java.util.ArrayList;
import java.util.Arrays;
import java.util.HashMap;
import java.util.HashSet;
import java.util.List;
import java.util.Map;
import java.util.NoSuchElementException;
import java.util.Random;
import java.util.Set;

/**
 * Runs of random calls, wild ones too, on the class and on a second, slow and naive reading of
 * the document: each answer, and each exception, has to be the same.
 */
public final class ModelTest {
    private static final int RUNS = 1500;
    private static final int CALLS = 250;

    /** The state of one judge. */
    private static final class Boat {
        int where = -1;
        int face;
        Set<Integer> seen = new HashSet<>();
        int turned;

        Boat copy() {
            Boat b = new Boat();
            b.where = where;
            b.face = face;
            b.seen = new HashSet<>(seen);
            return b;
        }

        int bits() {
            int bits = 0;
            for (int s : seen) {
                bits += 1 << s;
            }
            return bits;
        }
    }

    /** All that steps and acts change. */
    private static final class World {
        int step;
        List<Boat> boats = new ArrayList<>();
        List<int[]> reaches = new ArrayList<>();

        World copy() {
            World w = new World();
            w.step = step;
            boats.forEach(b -> w.boats.add(b.copy()));
            reaches.forEach(r -> w.reaches.add(r.clone()));
            return w;
        }
    }

    private interface Node {
        int value(Map<String, Integer> values);
    }

    private static final class Fault extends RuntimeException {
        private static final long serialVersionUID = 1L;
        final int code;
        final int place;

        Fault(int code, int place) {
            this.code = code;
            this.place = place;
        }
    }

    private record Token(String text, int place) { }

    private static final class Told {
        int sides = 4;
        List<int[]> reaches = new ArrayList<>();
        List<int[]> judges = new ArrayList<>();
        Node turns;
        Node goes;
    }

    private static final class Parse {
        final List<Token> tokens = new ArrayList<>();
        int i = 0;
        final Told told = new Told();

        Parse(String text) {
            int p = 0;
            while (p < text.length()) {
                char c = text.charAt(p);
                int q = p + 1;
                if (c == ' ' || c == '\n') {
                    p = q;
                    continue;
                }
                String row = c >= 'a' && c <= 'z' ? "abcdefghijklmnopqrstuvwxyz"
                        : c >= '0' && c <= '9' ? "0123456789" : "";
                while (q < text.length() && row.indexOf(text.charAt(q)) >= 0) {
                    q++;
                }
                tokens.add(new Token(text.substring(p, q), p));
                p = q;
            }
            tokens.add(new Token("", text.length()));
        }

        String now() {
            return tokens.get(i).text;
        }

        Fault fault(int code) {
            return new Fault(code, tokens.get(i).place);
        }

        boolean word() {
            return !now().isEmpty() && now().charAt(0) >= 'a' && now().charAt(0) <= 'z';
        }

        boolean digits() {
            return !now().isEmpty() && now().charAt(0) >= '0' && now().charAt(0) <= '9';
        }

        void sign(String s) {
            if (!now().equals(s)) {
                throw fault(1);
            }
            i++;
        }

        int number(int least, int most, int code) {
            if (!digits()) {
                throw fault(1);
            }
            if (now().length() > 4) {
                throw fault(2);
            }
            int n = Integer.parseInt(now());
            if (n < least || n > most) {
                throw fault(code);
            }
            i++;
            return n;
        }

        Told gorge() {
            boolean sides = false;
            while (!now().isEmpty()) {
                String w = now();
                if (!List.of("sides", "reach", "judge", "bigot", "turns", "goes").contains(w)) {
                    throw fault(1);
                }
                if (w.equals("reach") && told.reaches.size() == 9) {
                    throw fault(2);
                }
                if ((w.equals("judge") || w.equals("bigot")) && told.judges.size() == 8) {
                    throw fault(2);
                }
                if (w.equals("sides") && !told.judges.isEmpty()) {
                    throw fault(4);
                }
                if (w.equals("sides") && sides || w.equals("turns") && told.turns != null
                        || w.equals("goes") && told.goes != null) {
                    throw fault(5);
                }
                i++;
                switch (w) {
                    case "sides" -> {
                        told.sides = number(2, 8, 2);
                        sides = true;
                    }
                    case "reach" -> told.reaches.add(new int[] {number(0, 3, 2), number(0, 7, 2)});
                    case "turns" -> told.turns = expr(1, "spin");
                    case "goes" -> told.goes = expr(1, "flow");
                    default -> told.judges.add(new int[] {number(0, told.sides - 1, 3),
                        number(0, 9, 2), number(0, 20, 2), w.equals("bigot") ? 1 : 0});
                }
                sign(";");
            }
            return told;
        }

        Node expr(int level, String own) {
            if (level > 6 && (word() || digits() || now().equals("("))) {
                throw fault(2);
            }
            return chain(level, own, 0);
        }

        /** The five kinds of rows: or, and, not with a test, sums, products. */
        Node chain(int level, String own, int kind) {
            if (kind == 2) {
                return not(level, own, 1);
            }
            Node left = kind == 4 ? part(level, own) : chain(level, own, kind + 1);
            List<String> ops = List.of(List.of("or"), List.of("and"), List.<String>of(),
                    List.of("+", "-"), List.of("*", "/")).get(kind);
            while (ops.contains(now())) {
                String op = now();
                i++;
                Node a = left;
                Node b = kind == 4 ? part(level, own) : chain(level, own, kind + 1);
                left = v -> apply(op, a.value(v), b.value(v));
            }
            return left;
        }

        Node not(int level, String own, int many) {
            if (now().equals("not")) {
                if (many == 7) {
                    throw fault(2);
                }
                i++;
                Node a = not(level, own, many + 1);
                return v -> a.value(v) == 0 ? 1 : 0;
            }
            Node a = chain(level, own, 3);
            if (now().equals("<") || now().equals("=")) {
                String op = now();
                i++;
                Node b = chain(level, own, 3);
                return v -> apply(op, a.value(v), b.value(v));
            }
            return a;
        }

        Node part(int level, String own) {
            if (digits()) {
                int n = number(0, 9999, 2);
                return v -> n;
            }
            if (word()) {
                String w = now();
                if (!List.of("lean", "seen", "faces", "here", "step", own).contains(w)) {
                    throw fault(3);
                }
                i++;
                return v -> v.get(w);
            }
            sign("(");
            Node a = expr(level + 1, own);
            sign(")");
            return a;
        }

        static int apply(String op, int a, int b) {
            return switch (op) {
                case "+" -> a + b;
                case "-" -> a - b;
                case "*" -> a * b;
                case "/" -> b == 0 ? 0 : (int) ((long) a / b);
                case "<" -> a < b ? 1 : 0;
                case "=" -> a == b ? 1 : 0;
                case "and" -> a != 0 & b != 0 ? 1 : 0;
                default -> a != 0 | b != 0 ? 1 : 0;
            };
        }
    }

    /** The second reading; its methods bear the names of the face, for calls by name. */
    public static final class Model {
        private StringBuilder tape = new StringBuilder();
        private int place = -1;
        private Told told = new Told();
        private World now = new World();
        private List<World> acts = new ArrayList<>();
        private List<int[]> sightings = new ArrayList<>();
        private int[] status = new int[3];
        private Object[] kept;

        public int feed(int a, int b, int c, int d, int e) {
            if (tape.length() > 680) {
                return -1;
            }
            for (int n : new int[] {a, b, c, d, e}) {
                for (byte x : java.nio.ByteBuffer.allocate(4).putInt(n).array()) {
                    tape.append((char) (x & 255));
                }
            }
            return tape.length();
        }

        public int gorge(int n) {
            if (n < 0 || n > tape.length()) {
                throw new IllegalArgumentException();
            }
            String text = tape.substring(0, n);
            tape = new StringBuilder();
            Told fresh;
            try {
                fresh = new Parse(text).gorge();
            } catch (Fault f) {
                status[0]++;
                place = f.place;
                return f.code;
            }
            told = fresh;
            place = -1;
            now = new World();
            for (int[] r : told.reaches) {
                now.reaches.add(r.clone());
            }
            for (int[] j : told.judges) {
                Boat b = new Boat();
                b.face = j[0];
                now.boats.add(b);
            }
            acts = new ArrayList<>();
            sightings = new ArrayList<>();
            kept = null;
            return 0;
        }

        public int fault() {
            return place;
        }

        private static void nse(boolean bad) {
            if (bad) {
                throw new NoSuchElementException();
            }
        }

        private static void iae(boolean bad) {
            if (bad) {
                throw new IllegalArgumentException();
            }
        }

        private boolean noJudge(int j) {
            return j < 0 || j >= told.judges.size();
        }

        private boolean noReach(int r) {
            return r < 0 || r >= told.reaches.size();
        }

        private boolean noSide(int s) {
            return s < 0 || s >= told.sides;
        }

        private int who(World w, java.util.function.Predicate<Boat> test) {
            int bits = 0;
            for (int j = 0; j < w.boats.size(); j++) {
                bits += test.test(w.boats.get(j)) ? 1 << j : 0;
            }
            return bits;
        }

        private boolean fair(Boat b) {
            return b.seen.size() == told.sides;
        }

        private int landed(World w) {
            return who(w, b -> b.where == -2);
        }

        public int count(int what) {
            nse(what < 0 || what > 14);
            int pools = 0;
            for (int r = 0; r < now.reaches.size(); r++) {
                pools += now.reaches.get(r)[0] == 0 ? 1 << r : 0;
            }
            return new int[] {told.sides, told.reaches.size(), told.judges.size(), now.step,
                who(now, this::fair), landed(now), who(now, b -> b.where >= 0), pools, bench(),
                acts.size(), sightings.size(), tape.length(), status[0], status[1],
                status[2]}[what];
        }

        private int bench() {
            for (int size = 1; size <= 8; size++) {
                for (int bits = 0; bits < 1 << told.judges.size(); bits++) {
                    Set<Integer> all = new HashSet<>();
                    for (int j = 0; j < told.judges.size(); j++) {
                        if ((bits & 1 << j) != 0) {
                            all.addAll(now.boats.get(j).seen);
                        }
                    }
                    if (Integer.bitCount(bits) == size && all.size() == told.sides) {
                        return bits;
                    }
                }
            }
            return -1;
        }

        public int reach(int reach, int what) {
            nse(noReach(reach) || what < 0 || what > 2);
            return what == 2 ? who(now, b -> b.where == reach) : now.reaches.get(reach)[what];
        }

        public int judge(int judge, int what) {
            nse(noJudge(judge) || what < 0 || what > 5);
            Boat b = now.boats.get(judge);
            int[] t = told.judges.get(judge);
            return new int[] {b.where, b.face, b.bits(), t[1], t[2], t[3]}[what];
        }

        private int[] leansNow() {
            return told.judges.stream().mapToInt(j -> j[1]).toArray();
        }

        private void pass(World w, int[] leans, boolean flood) {
            for (int j = 0; j < w.boats.size(); j++) {
                Boat b = w.boats.get(j);
                if (told.judges.get(j)[2] == w.step && b.where == -1) {
                    b.where = w.reaches.isEmpty() ? -2 : 0;
                }
            }
            for (int j = 0; j < w.boats.size(); j++) {
                Boat b = w.boats.get(j);
                if (b.where < 0) {
                    continue;
                }
                int flow = flood ? 3 : w.reaches.get(b.where)[0];
                int spin = w.reaches.get(b.where)[1];
                b.seen.add(b.face);
                int turn = told.turns == null ? Math.max(0, spin - leans[j])
                        : Math.max(0, Math.min(30, told.turns.value(values(w, j, leans, spin, 0))));
                if (told.judges.get(j)[3] == 1) {
                    turn = turn / 2;
                }
                b.turned += turn;
                b.face = (b.face + turn) % told.sides;
                int go;
                if (told.goes != null) {
                    go = Math.max(0, Math.min(3, told.goes.value(values(w, j, leans, 0, flow))));
                } else if (flow == 0) {
                    go = fair(b) ? 1 : 0;
                } else {
                    go = flow;
                }
                advance(w, b, go);
            }
            w.step++;
        }

        private void advance(World w, Boat b, int go) {
            b.where = b.where + go >= w.reaches.size() ? -2 : b.where + go;
        }

        private Map<String, Integer> values(World w, int j, int[] leans, int spin, int flow) {
            Map<String, Integer> v = new HashMap<>();
            Boat b = w.boats.get(j);
            int here = 0;
            for (Boat o : w.boats) {
                here += o != b && o.where == b.where ? 1 : 0;
            }
            v.put("lean", leans[j]);
            v.put("seen", b.seen.size());
            v.put("faces", b.face);
            v.put("here", here);
            v.put("step", w.step);
            v.put("spin", spin);
            v.put("flow", flow);
            return v;
        }

        /** The worlds behind 0, 1 .. steps. */
        private List<World> film(World from, int steps, int[] leans) {
            List<World> film = new ArrayList<>();
            World w = from.copy();
            film.add(w.copy());
            int[] turned = new int[w.boats.size()];
            for (int t = 0; t < steps; t++) {
                pass(w, leans, false);
                World c = w.copy();
                for (int j = 0; j < turned.length; j++) {
                    c.boats.get(j).turned = w.boats.get(j).turned;
                }
                film.add(c);
            }
            return film;
        }

        private World behind(int steps) {
            return film(now, steps, leansNow()).get(steps);
        }

        private int refused(int which) {
            status[which]++;
            return -1;
        }

        private void act() {
            acts.add(now.copy());
            if (acts.size() > 40) {
                acts.remove(0);
            }
        }

        public int steps(int many) {
            if (many < 1 || many > 20 || now.step + many > 999) {
                return refused(1);
            }
            act();
            now = behind(many);
            return now.step;
        }

        public int call(int judge) {
            nse(noJudge(judge));
            if (now.boats.get(judge).where < 0) {
                return refused(1);
            }
            act();
            advance(now, now.boats.get(judge), 1);
            return now.boats.get(judge).where;
        }

        public int paddle(int judge, int side) {
            nse(noJudge(judge) || noSide(side));
            Boat b = now.boats.get(judge);
            if (b.where == -2 || b.face == side) {
                return refused(1);
            }
            act();
            int was = b.face;
            b.face = side;
            return was;
        }

        public int carry(int judge, int reach) {
            nse(noJudge(judge) || noReach(reach));
            Boat b = now.boats.get(judge);
            if (b.where == -1 || b.where == reach) {
                return refused(1);
            }
            act();
            int was = b.where;
            b.where = reach;
            return was;
        }

        public int dredge(int reach, int flow, int spin) {
            nse(noReach(reach));
            if (flow < 0 || flow > 3 || spin < 0 || spin > 7) {
                return refused(1);
            }
            act();
            int[] was = now.reaches.set(reach, new int[] {flow, spin});
            return was[0] * 10 + was[1];
        }

        public int undo() {
            if (acts.isEmpty()) {
                return -1;
            }
            now = acts.remove(acts.size() - 1);
            return acts.size();
        }

        public int then(int judge, int steps, int what) {
            nse(noJudge(judge) || what < 0 || what > 2);
            iae(steps < 0 || steps > 60);
            Boat b = behind(steps).boats.get(judge);
            return new int[] {b.where, b.face, b.bits()}[what];
        }

        private int firstTime(World from, java.util.function.Predicate<World> test) {
            List<World> film = film(from, 60, leansNow());
            for (int t = 0; t <= 60; t++) {
                if (test.test(film.get(t))) {
                    return t;
                }
            }
            return -1;
        }

        private int whole(World from, int judge) {
            return firstTime(from, w -> fair(w.boats.get(judge)));
        }

        public int when(int judge, int what) {
            nse(noJudge(judge) || what < 0 || what > 1);
            return what == 0 ? whole(now, judge)
                    : firstTime(now, w -> w.boats.get(judge).where == -2);
        }

        public int later(int steps, int what) {
            nse(what < 0 || what > 3);
            iae(steps < 0 || steps > 60);
            World w = behind(steps);
            int crowd = -1;
            int most = 0;
            for (int r = 0; r < told.reaches.size(); r++) {
                int place = r;
                int many = Integer.bitCount(who(w, b -> b.where == place));
                if (many > most) {
                    most = many;
                    crowd = r;
                }
            }
            return new int[] {who(w, this::fair), landed(w), who(w, b -> b.where >= 0),
                crowd}[what];
        }

        public int beside(int judge, int other) {
            nse(noJudge(judge) || noJudge(other));
            return judge == other ? -1 : firstTime(now, w -> w.boats.get(judge).where >= 0
                    && w.boats.get(judge).where == w.boats.get(other).where);
        }

        public int first() {
            int best = -1;
            int soonest = 61;
            for (int j = 0; j < told.judges.size(); j++) {
                int lands = when(j, 1);
                if (lands > 0 && lands < soonest) {
                    soonest = lands;
                    best = j;
                }
            }
            return best;
        }

        public int last(int judge) {
            nse(noJudge(judge));
            int last = -1;
            int latest = 0;
            List<World> film = film(now, 60, leansNow());
            for (int s = 0; s < told.sides; s++) {
                for (int t = 1; t <= 60; t++) {
                    if (film.get(t).boats.get(judge).seen.contains(s)
                            && !film.get(t - 1).boats.get(judge).seen.contains(s) && t > latest) {
                        latest = t;
                        last = s;
                    }
                }
            }
            return last;
        }

        public int still(int judge, int steps, int what) {
            nse(noJudge(judge) || what < 0 || what > 1);
            iae(steps < 1 || steps > 60);
            int many = 0;
            for (World w : film(now, steps, leansNow()).subList(1, steps + 1)) {
                int where = w.boats.get(judge).where;
                if (where >= 0 && (what == 0 ? w.reaches.get(where)[0] == 0
                        : Integer.bitCount(who(w, b -> b.where == where)) == 1)) {
                    many++;
                }
            }
            return many;
        }

        public int turned(int judge, int steps) {
            nse(noJudge(judge));
            iae(steps < 0 || steps > 60);
            return behind(steps).boats.get(judge).turned;
        }

        public int stay(int judge) {
            nse(noJudge(judge));
            List<World> film = film(now, 60, leansNow());
            int best = 0;
            for (int from = 1; from <= 60; from++) {
                for (int to = from; to <= 60; to++) {
                    int where = film.get(from).boats.get(judge).where;
                    boolean same = where >= 0;
                    for (int t = from; t <= to && same; t++) {
                        same = film.get(t).boats.get(judge).where == where;
                    }
                    if (!same) {
                        break;
                    }
                    best = Math.max(best, to - from + 1);
                }
            }
            return best;
        }

        public int toSet(int judge, int what) {
            nse(noJudge(judge) || what < 0 || what > 1);
            int which = -1;
            int soonest = 61;
            for (int s = 0; s < told.sides; s++) {
                World w = now.copy();
                w.boats.get(judge).face = s;
                int t = whole(w, judge);
                if (t >= 0 && t < soonest) {
                    soonest = t;
                    which = s;
                }
            }
            return what == 0 ? which : soonest == 61 ? -1 : soonest;
        }

        public int toSpin(int reach, int steps, int what) {
            nse(noReach(reach) || what < 0 || what > 1);
            iae(steps < 1 || steps > 60);
            int[] many = new int[8];
            for (int s = 0; s < 8; s++) {
                World w = now.copy();
                w.reaches.get(reach)[1] = s;
                List<World> film = film(w, steps, leansNow());
                many[s] = Integer.bitCount(who(film.get(steps), this::fair));
            }
            int most = Arrays.stream(many).max().getAsInt();
            for (int s = 0; s < 8; s++) {
                if (many[s] == most) {
                    return what == 0 ? s : most;
                }
            }
            throw new AssertionError();
        }

        public int toCall(int judge) {
            nse(noJudge(judge));
            int without = whole(now, judge);
            int soonest = without == -1 ? 61 : without;
            int best = -1;
            for (int c = 0; c < told.judges.size(); c++) {
                if (now.boats.get(c).where >= 0) {
                    World w = now.copy();
                    advance(w, w.boats.get(c), 1);
                    int t = whole(w, judge);
                    if (t >= 0 && t < soonest) {
                        soonest = t;
                        best = c;
                    }
                }
            }
            return best;
        }

        private int[] bestRow;
        private int bestMany;
        private int bestLean;

        /** Tries all rows, in the order in which the first of like ones has to be found. */
        private void rows(int[] row, int side, int used, int many, int lean) {
            if (side == told.sides) {
                if (bestRow == null || many > bestMany || many == bestMany && lean < bestLean) {
                    bestRow = row.clone();
                    bestMany = many;
                    bestLean = lean;
                }
                return;
            }
            for (int j = 0; j < told.judges.size(); j++) {
                if ((used & 1 << j) == 0 && now.boats.get(j).seen.contains(side)) {
                    row[side] = j;
                    rows(row, side + 1, used | 1 << j, many + 1, lean + told.judges.get(j)[1]);
                }
            }
            row[side] = -1;
            rows(row, side + 1, used, many, lean);
        }

        public int panel(int what) {
            nse(what < 0 || what > 1);
            bestRow = null;
            rows(new int[told.sides], 0, 0, 0, 0);
            return what == 0 ? bestMany : bestLean;
        }

        public int seat(int side) {
            nse(noSide(side));
            panel(0);
            return bestRow[side];
        }

        public int unlike(int judge, int other) {
            nse(noJudge(judge) || noJudge(other));
            int many = 0;
            for (int s = 0; s < told.sides; s++) {
                many += now.boats.get(judge).seen.contains(s)
                        == now.boats.get(other).seen.contains(s) ? 0 : 1;
            }
            return many;
        }

        public int sides(int steps, int what) {
            nse(what < 0 || what > 1);
            iae(steps < 0 || steps > 60);
            World w = behind(steps);
            int bits = 0;
            for (int s = 0; s < told.sides; s++) {
                int side = s;
                boolean in = what == 0 ? w.boats.stream().anyMatch(b -> b.seen.contains(side))
                        : w.boats.stream().allMatch(b -> b.seen.contains(side));
                bits += in ? 1 << s : 0;
            }
            return bits;
        }

        public int facing(int side, int steps) {
            nse(noSide(side));
            iae(steps < 0 || steps > 60);
            return who(behind(steps), b -> b.where >= 0 && b.face == side);
        }

        public int agree(int judge, int other, int steps) {
            nse(noJudge(judge) || noJudge(other));
            iae(steps < 1 || steps > 60);
            return (int) film(now, steps, leansNow()).stream().skip(1)
                    .filter(w -> w.boats.get(judge).where >= 0 && w.boats.get(other).where >= 0
                            && w.boats.get(judge).face == w.boats.get(other).face).count();
        }

        public int see(int judge, int steps, int side) {
            nse(noJudge(judge));
            if (sightings.size() == 8 || steps < 0 || steps > 20 || noSide(side)) {
                return refused(2);
            }
            sightings.add(new int[] {judge, steps, side});
            return sightings.size();
        }

        private boolean so(int[] leans) {
            List<World> film = film(now, 20, leans);
            return sightings.stream()
                    .allMatch(s -> film.get(s[1]).boats.get(s[0]).face == s[2]);
        }

        private List<int[]> guesses() {
            List<int[]> all = new ArrayList<>();
            for (int j = 0; j < told.judges.size(); j++) {
                for (int lean = 0; lean <= 9; lean++) {
                    int[] leans = leansNow();
                    if (leans[j] != lean) {
                        leans[j] = lean;
                        if (so(leans)) {
                            all.add(new int[] {j, lean});
                        }
                    }
                }
            }
            return all;
        }

        public int leans(int what) {
            nse(what < 0 || what > 2);
            if (what == 2) {
                return so(leansNow()) ? 1 : 0;
            }
            List<int[]> all = guesses();
            return what == 0 ? all.size() : all.isEmpty() ? -1 : all.get(0)[0] * 10 + all.get(0)[1];
        }

        public int watch(int what) {
            nse(what < 0 || what > 1);
            List<Set<Integer>> places = new ArrayList<>();
            told.judges.forEach(j -> places.add(new HashSet<>()));
            for (int[] guess : guesses()) {
                int[] leans = leansNow();
                leans[guess[0]] = guess[1];
                World w = film(now, 6, leans).get(6);
                for (int j = 0; j < places.size(); j++) {
                    places.get(j).add(w.boats.get(j).where);
                }
            }
            int best = -1;
            int most = 0;
            for (int j = 0; j < places.size(); j++) {
                if (places.get(j).size() > most) {
                    most = places.get(j).size();
                    best = j;
                }
            }
            return what == 0 ? best : most;
        }

        public void forget() {
            sightings.clear();
        }

        private int chances(World w, int judge, int steps, int tenths) {
            if (steps == 0) {
                return fair(w.boats.get(judge)) ? 1 : 0;
            }
            World dry = w.copy();
            pass(dry, leansNow(), false);
            World wet = w.copy();
            pass(wet, leansNow(), true);
            return tenths * chances(wet, judge, steps - 1, tenths)
                    + (10 - tenths) * chances(dry, judge, steps - 1, tenths);
        }

        public int floods(int judge, int steps, int tenths) {
            nse(noJudge(judge));
            iae(steps < 1 || steps > 5 || tenths < 0 || tenths > 10);
            return chances(now, judge, steps, tenths);
        }

        private int gain(int judge, int other, int mine, int theirs) {
            World w = now.copy();
            w.boats.get(judge).face = (w.boats.get(judge).face + mine) % told.sides;
            w.boats.get(other).face = (w.boats.get(other).face + theirs) % told.sides;
            World end = film(w, 5, leansNow()).get(5);
            Set<Integer> alone = new HashSet<>(end.boats.get(judge).seen);
            alone.removeAll(end.boats.get(other).seen);
            return 2 * alone.size() - mine;
        }

        public int game(int judge, int other, int what) {
            nse(noJudge(judge) || noJudge(other) || what < 0 || what > 1);
            iae(judge == other);
            int most = now.boats.get(judge).where == -2 ? 0 : 1;
            int otherMost = now.boats.get(other).where == -2 ? 0 : 1;
            List<Integer> rest = new ArrayList<>();
            for (int a = 0; a <= most; a++) {
                for (int b = 0; b <= otherMost; b++) {
                    boolean rests = most == 0
                            || gain(judge, other, 1 - a, b) <= gain(judge, other, a, b);
                    rests &= otherMost == 0
                            || gain(other, judge, 1 - b, a) <= gain(other, judge, b, a);
                    if (rests) {
                        rest.add(10 * a + b);
                    }
                }
            }
            return what == 0 ? rest.size() : rest.isEmpty() ? -1 : rest.get(0);
        }

        private int seed;

        private int draw(int n) {
            seed = seed * 1103515245 + 12345;
            return (seed >>> 16) % 32768 % n;
        }

        public int years(int start, int n, int what) {
            nse(what < 0 || what > 2);
            iae(n < 0 || n > 60);
            seed = start;
            World w = now.copy();
            int judges = told.judges.size();
            for (int t = 0; t < n; t++) {
                int kind = draw(6);
                if (kind == 0 && judges > 0) {
                    Boat b = w.boats.get(draw(judges));
                    if (b.where >= 0) {
                        advance(w, b, 1);
                    }
                } else if (kind == 1 && judges > 0) {
                    Boat b = w.boats.get(draw(judges));
                    int side = draw(told.sides);
                    if (b.where != -2) {
                        b.face = side;
                    }
                } else if (kind == 2 && !w.reaches.isEmpty()) {
                    int[] r = w.reaches.get(draw(w.reaches.size()));
                    r[1] = draw(8);
                }
                pass(w, leansNow(), false);
            }
            return new int[] {Integer.bitCount(landed(w)) - Integer.bitCount(landed(now)),
                Integer.bitCount(who(w, this::fair)),
                w.boats.stream().mapToInt(b -> b.turned).sum()}[what];
        }

        public void image() {
            List<World> copies = new ArrayList<>();
            acts.forEach(w -> copies.add(w.copy()));
            kept = new Object[] {now.copy(), copies, new ArrayList<>(sightings), status.clone()};
        }

        @SuppressWarnings("unchecked")
        public boolean restore() {
            if (kept == null) {
                return false;
            }
            now = ((World) kept[0]).copy();
            acts = new ArrayList<>();
            ((List<World>) kept[1]).forEach(w -> acts.add(w.copy()));
            sightings = new ArrayList<>((List<int[]>) kept[2]);
            status = ((int[]) kept[3]).clone();
            return true;
        }
    }

    private static final Random RANDOM = new Random(20261118);
    private static final Map<String, Method> REAL = new HashMap<>();
    private static final Map<String, Method> NAIVE = new HashMap<>();
    private static final Map<String, Integer> ANSWERED = new HashMap<>();

    private static int upTo(int most) {
        return RANDOM.nextInt(most + 1);
    }

    private static String oneOf(String... words) {
        return words[RANDOM.nextInt(words.length)];
    }

    private static String expr(int depth, String own) {
        int kind = upTo(depth <= 0 ? 1 : 9);
        return switch (kind) {
            case 0 -> Integer.toString(RANDOM.nextInt(10) == 0 ? upTo(9999) : upTo(5));
            case 1, 2 -> oneOf("lean", "seen", "faces", "here", "step", own);
            case 3 -> "(" + expr(depth - 1, own) + ")";
            case 4 -> "not " + expr(depth - 1, own);
            case 5 -> expr(depth - 1, own) + oneOf(" or ", " and ") + expr(depth - 1, own);
            case 6 -> expr(0, own) + oneOf("<", "=", " = ") + expr(0, own);
            default -> part(depth - 1, own) + oneOf("+", "-", "*", "/", " + ")
                    + part(depth - 1, own);
        };
    }

    private static String part(int depth, String own) {
        return depth > 0 && RANDOM.nextBoolean() ? "(" + expr(depth - 1, own) + ")"
                : expr(0, own);
    }

    private static String text() {
        StringBuilder s = new StringBuilder();
        int sides = 4;
        if (upTo(3) > 0) {
            sides = 2 + upTo(upTo(2) == 0 ? 6 : 2);
            s.append("sides ").append(sides).append(";");
        }
        boolean ruled = RANDOM.nextBoolean();
        if (ruled && RANDOM.nextBoolean()) {
            s.append("turns ").append(expr(upTo(4), "spin")).append(";");
        }
        int reaches = upTo(5) == 0 ? upTo(9) : 1 + upTo(3);
        for (int r = 0; r < reaches; r++) {
            s.append("reach ").append(upTo(2) == 0 ? 0 : upTo(upTo(3))).append(' ')
                    .append(upTo(7)).append(oneOf(";", " ;", ";\n"));
        }
        int judges = upTo(3) == 0 ? upTo(8) : 1 + upTo(4);
        for (int j = 0; j < judges; j++) {
            s.append(oneOf("judge ", "judge ", "bigot ")).append(upTo(sides - 1)).append(' ')
                    .append(upTo(3) == 0 ? upTo(9) : upTo(2)).append(' ')
                    .append(upTo(3) == 0 ? upTo(20) : upTo(3)).append(";");
        }
        if (ruled && RANDOM.nextBoolean()) {
            s.append("goes ").append(expr(upTo(4), "flow")).append(";");
        }
        return s.length() > 700 ? s.substring(0, 700) : s.toString();
    }

    /** A text that is hurt in one or two places, for faults. */
    private static String hurt(String text) {
        StringBuilder s = new StringBuilder(text);
        for (int i = 0; i <= upTo(1); i++) {
            int at = upTo(s.length());
            switch (upTo(4)) {
                case 0 -> s.setLength(at);
                case 1 -> s.insert(at, oneOf(";", "(", ")", "+", "<", "=", "not ", "99999", "9",
                        "x", "A", " ", "(((((((", "not not not not not not not ", " 7 ", " or ",
                        "sides 3;", "turns 1;", "goes 1;", "reach 1 1;", "judge 0 0 0;", "flow",
                        "spin", "1", "0", "20", "\u00e9", "\t", "-", "((((((1))))))", "(((((1)))))"));
                case 2 -> s.delete(at, Math.min(s.length(), at + 1 + upTo(3)));
                case 3 -> {
                    int from = upTo(s.length());
                    s.insert(at, s.substring(from, Math.min(s.length(), from + upTo(30))));
                }
                default -> {
                    if (at < s.length()) {
                        s.setCharAt(at, (char) (32 + upTo(95)));
                    }
                }
            }
        }
        return s.length() > 700 ? s.substring(0, 700) : s.toString();
    }

    private static Object answer(Map<String, Method> methods, Object on, String name, int[] args)
            throws IllegalAccessException {
        Object[] boxed = Arrays.stream(args).boxed().toArray();
        try {
            Object got = methods.get(name).invoke(on, boxed);
            return got == null ? "nothing" : got;
        } catch (InvocationTargetException e) {
            return e.getCause().getClass().getSimpleName();
        }
    }

    private static List<String> log;

    private static void compare(RoundCoracles real, Model naive, String name, int... args)
            throws IllegalAccessException {
        Object want = answer(NAIVE, naive, name, args);
        Object got = answer(REAL, real, name, args);
        log.add(name + Arrays.toString(args) + " -> " + got);
        ANSWERED.merge(name, 1, Integer::sum);
        if (!want.equals(got)) {
            System.out.println(String.join("\n", log) + "\n  but the model answers " + want);
            System.exit(1);
        }
    }

    private static void tell(RoundCoracles real, Model naive, String text)
            throws IllegalAccessException {
        log.add("text: " + text);
        StringBuilder s = new StringBuilder(text);
        while (s.length() % 20 != 0) {
            s.append((char) upTo(255));
        }
        for (int i = 0; i < s.length(); i += 20) {
            int[] five = new int[5];
            for (int k = 0; k < 20; k++) {
                five[k / 4] = five[k / 4] << 8 | s.charAt(i + k);
            }
            compare(real, naive, "feed", five);
        }
        compare(real, naive, "gorge", text.length());
        compare(real, naive, "fault");
        for (int what = 0; what <= 14; what++) {
            compare(real, naive, "count", what);
        }
    }

    /** Mostly what there may be, now and then a bit beside it, or wild. */
    private static int number(int most) {
        int luck = upTo(40);
        return luck == 0 ? -1 : luck == 1 ? most + 1 : luck == 2 ? RANDOM.nextInt() : upTo(most);
    }

    private static void anyCall(RoundCoracles real, Model naive) throws IllegalAccessException {
        int j = Math.max(0, naive.told.judges.size() - 1);
        int r = Math.max(0, naive.told.reaches.size() - 1);
        int s = naive.told.sides - 1;
        int far = upTo(2) == 0 ? 60 : 12;
        switch (upTo(52)) {
            case 0, 1 -> compare(real, naive, "count", number(14));
            case 2 -> compare(real, naive, "reach", number(r), number(2));
            case 3 -> compare(real, naive, "judge", number(j), number(5));
            case 4, 5, 6, 7 -> compare(real, naive, "steps", upTo(4) == 0 ? number(20) : number(3));
            case 8, 9 -> compare(real, naive, "call", number(j));
            case 10, 11 -> compare(real, naive, "paddle", number(j), number(s));
            case 12, 13, 14 -> compare(real, naive, "carry", number(j), number(r));
            case 15, 16 -> compare(real, naive, "dredge", number(r), number(3), number(7));
            case 17 -> compare(real, naive, "undo");
            case 18 -> compare(real, naive, upTo(9) == 0 ? "undo" : "first");
            case 19 -> compare(real, naive, "then", number(j), number(far), number(2));
            case 20 -> compare(real, naive, "when", number(j), number(1));
            case 21 -> compare(real, naive, "later", number(far), number(3));
            case 22 -> compare(real, naive, "beside", number(j), number(j));
            case 23 -> compare(real, naive, "first");
            case 24 -> compare(real, naive, "last", number(j));
            case 25, 26 -> compare(real, naive, "still", number(j), number(far), number(1));
            case 27 -> compare(real, naive, "turned", number(j), number(far));
            case 28 -> compare(real, naive, "stay", number(j));
            case 29 -> compare(real, naive, "toSet", number(j), number(1));
            case 30 -> compare(real, naive, "toSpin", number(r), number(far), number(1));
            case 31, 32 -> compare(real, naive, "toCall", number(j));
            case 33 -> compare(real, naive, "panel", number(1));
            case 34, 35 -> compare(real, naive, "seat", number(s));
            case 36 -> compare(real, naive, "unlike", number(j), number(j));
            case 37 -> compare(real, naive, "sides", number(far), number(1));
            case 38 -> compare(real, naive, "facing", number(s), number(far));
            case 39 -> compare(real, naive, "agree", number(j), number(j), number(far));
            case 40 -> compare(real, naive, "see", number(j), number(20), number(s));
            case 41 -> seeTruly(real, naive, j);
            case 42 -> compare(real, naive, "leans", number(2));
            case 43 -> compare(real, naive, "watch", number(1));
            case 44, 45 -> compare(real, naive, "floods", number(j), 1 + number(4), number(10));
            case 46 -> compare(real, naive, "game", number(j), number(j), number(1));
            case 47 -> compare(real, naive, "years", RANDOM.nextInt(), number(far), number(2));
            case 48 -> compare(real, naive, upTo(3) == 0 ? "image" : "fault");
            case 49 -> compare(real, naive, upTo(3) == 0 ? "restore" : "fault");
            case 50 -> compare(real, naive, upTo(1) == 0 ? "forget" : "first");
            case 51 -> compare(real, naive, "feed", RANDOM.nextInt(), 1, -1, 0, RANDOM.nextInt());
            default -> compare(real, naive, "gorge", upTo(60) == 0 ? number(0) : 701 + upTo(9));
        }
    }

    /** A sighting that is so by the leans as told. */
    private static void seeTruly(RoundCoracles real, Model naive, int judges)
            throws IllegalAccessException {
        int judge = upTo(judges);
        int steps = upTo(10);
        if (!naive.noJudge(judge)) {
            compare(real, naive, "see", judge, steps, naive.then(judge, steps, 1));
        }
    }

    public static void main(String[] args) throws IllegalAccessException {
        for (Method m : RoundCoracles.class.getDeclaredMethods()) {
            if (java.lang.reflect.Modifier.isPublic(m.getModifiers())) {
                REAL.put(m.getName(), m);
            }
        }
        for (Method m : Model.class.getDeclaredMethods()) {
            if (java.lang.reflect.Modifier.isPublic(m.getModifiers())) {
                NAIVE.put(m.getName(), m);
            }
        }
        for (int run = 0; run < RUNS; run++) {
            log = new ArrayList<>();
            RoundCoracles real = new RoundCoracles();
            Model naive = new Model();
            tell(real, naive, upTo(30) == 0 ? hurt(text()) : text());
            for (int i = 0; i < CALLS; i++) {
                if (upTo(120) == 0 && naive.tape.length() == 0) {
                    tell(real, naive, upTo(1) > 0 ? hurt(text()) : text());
                }
                anyCall(real, naive);
            }
        }
        for (int run = 0; run < 20000; run++) {
            log = new ArrayList<>();
            tell(new RoundCoracles(), new Model(), hurt(text()));
        }
        for (String name : REAL.keySet()) {
            if (ANSWERED.getOrDefault(name, 0) < 100) {
                System.out.println(name + " was hardly called");
                System.exit(1);
            }
        }
        System.out.println("the class and the model answer alike: " + ANSWERED);
    }
}
