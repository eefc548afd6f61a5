import java.util.ArrayList;
import java.util.Arrays;
import java.util.HashMap;
import java.util.HashSet;
import java.util.LinkedHashMap;
import java.util.List;
import java.util.Map;
import java.util.Set;

/** The document done again in the plainest way, by trying all that can be, to hold the program against. */
final class Oracle {
    private static final class Fault extends RuntimeException {
        private static final long serialVersionUID = 1;
        final int code;

        Fault(int place, int why) {
            super("fault", null, false, false);
            code = 1 + 8 * place + why;
        }
    }

    private interface Value {
        long of(Life life, int head);
    }

    private interface Test {
        boolean of(Life life, int head);
    }

    private record Clause(Value sum, Test test) { }

    private static final class Plan {
        int rooms;
        int linger = -1;
        final List<int[]> doors = new ArrayList<>();
        final List<int[]> heads = new ArrayList<>();
        final List<Integer> senses = new ArrayList<>();
        final int[] delay = new int[6];
        final int[] most = {99, 99, 99, 99, 99, 99};

        int lingering() {
            return linger < 0 ? 3 : linger;
        }
    }

    private record Echo(int room, int halves, int until) { }

    private static final class Life {
        final Plan plan;
        int minute;
        final int[] at;
        final int[] came;
        final int[] gone;
        final int[] diedAt;
        final boolean[] open;
        final List<Echo> echoes = new ArrayList<>();
        /** The counts as they stood when each minute had gone by. */
        final List<int[]> rows = new ArrayList<>();

        Life(Plan plan) {
            this.plan = plan;
            int n = plan.heads.size();
            at = new int[n];
            came = new int[n];
            gone = new int[n];
            diedAt = new int[n];
            open = new boolean[plan.doors.size()];
            Arrays.fill(open, true);
            Arrays.fill(came, -1);
            Arrays.fill(diedAt, -1);
            for (int h = 0; h < n; h++) {
                at[h] = plan.heads.get(h)[0];
            }
            rows.add(counts());
        }

        Life(Life other) {
            plan = other.plan;
            minute = other.minute;
            at = other.at.clone();
            came = other.came.clone();
            gone = other.gone.clone();
            diedAt = other.diedAt.clone();
            open = other.open.clone();
            echoes.addAll(other.echoes);
            rows.addAll(other.rows);
        }

        int halves(int h) {
            return plan.heads.get(h)[1];
        }

        boolean lives(int h) {
            return diedAt[h] < 0;
        }

        boolean counts(int h) {
            return lives(h) || minute < diedAt[h] + plan.lingering();
        }

        int[] counts() {
            int[] c = new int[plan.rooms];
            for (int h = 0; h < at.length; h++) {
                if (counts(h)) {
                    c[at[h]] += halves(h);
                }
            }
            for (Echo e : echoes) {
                if (minute < e.until) {
                    c[e.room] += e.halves;
                }
            }
            return c;
        }

        int echoesNow() {
            int n = 0;
            for (Echo e : echoes) {
                n += minute < e.until ? 1 : 0;
            }
            return n;
        }

        int ago(int room, int k) {
            if (k == 0) {
                return counts()[room];
            }
            return rows.get(Math.max(0, minute - k))[room];
        }

        int felt(int room) {
            return ago(room, plan.delay[room]);
        }

        int feltBy(int sense) {
            int f = 0;
            for (int r = 0; r < plan.rooms; r++) {
                if ((plan.senses.get(sense) & 1 << r) != 0) {
                    f += felt(r);
                }
            }
            return f;
        }

        boolean linked(int a, int b) {
            for (int d = 0; d < open.length; d++) {
                int[] door = plan.doors.get(d);
                if (open[d] && (door[0] == a && door[1] == b || door[0] == b && door[1] == a)) {
                    return true;
                }
            }
            return false;
        }

        boolean canGo(int h, int room) {
            return lives(h) && linked(at[h], room) && counts()[room] + halves(h) <= plan.most[room];
        }

        List<Integer> ways(int h) {
            List<Integer> out = new ArrayList<>();
            for (int r = 0; r < plan.rooms; r++) {
                if (canGo(h, r)) {
                    out.add(r);
                }
            }
            return out;
        }

        void pass(int h, int room, boolean backwards) {
            int left = h < 0 ? -1 : at[h];
            if (h >= 0) {
                came[h] = left;
                at[h] = room;
                gone[h]++;
            }
            minute++;
            if (h >= 0 && backwards && plan.lingering() > 0 && echoesNow() < 6) {
                echoes.add(new Echo(left, halves(h), minute + plan.lingering()));
            }
            rows.add(counts());
        }

        int extreme(int h, int sign) {
            int best = 99;
            for (int r : ways(h)) {
                if (best == 99 || sign * felt(r) < sign * felt(best)) {
                    best = r;
                }
            }
            return best;
        }

        long word(String w, int h) {
            switch (w) {
                case "head": return h;
                case "halves": return halves(h);
                case "at": return at[h];
                case "home": return plan.heads.get(h)[0];
                case "came": return came[h] < 0 ? 99 : came[h];
                case "here": return felt(at[h]);
                case "few": return extreme(h, 1);
                case "crowd": return extreme(h, -1);
                case "least": return extreme(h, 1) == 99 ? 0 : felt(extreme(h, 1));
                case "greatest": return extreme(h, -1) == 99 ? 0 : felt(extreme(h, -1));
                case "gone": return gone[h];
                case "minute": return minute;
                default: throw new IllegalStateException(w);
            }
        }
    }

    /** A reader of texts that looks at one byte after the other. */
    private static final class Text {
        static final Set<String> VALUES = Set.of("head", "halves", "at", "home", "came", "here", "few", "crowd",
            "least", "greatest", "gone", "minute");
        final byte[] t;
        int p;
        int used;

        Text(byte[] t) {
            this.t = t;
        }

        int peek() {
            while (p < t.length && t[p] == 32) {
                p++;
            }
            return p < t.length ? t[p] & 255 : -1;
        }

        String peekWord() {
            peek();
            int q = p;
            StringBuilder b = new StringBuilder();
            while (q < t.length && t[q] >= 'a' && t[q] <= 'z') {
                b.append((char) t[q++]);
            }
            return b.toString();
        }

        int number(int least, int most) {
            peek();
            int q = p;
            StringBuilder b = new StringBuilder();
            while (q < t.length && t[q] >= '0' && t[q] <= '9') {
                b.append((char) t[q++]);
            }
            if (b.length() == 0) {
                throw new Fault(p, 0);
            }
            if (b.length() > 5) {
                throw new Fault(p, 1);
            }
            int n = Integer.parseInt(b.toString());
            if (n < least || n > most) {
                throw new Fault(p, 1);
            }
            p = q;
            return n;
        }

        boolean more() {
            int b = peek();
            if (b == -1) {
                return false;
            }
            if (b != ';') {
                throw new Fault(p, 0);
            }
            p++;
            return true;
        }

        Plan plan() {
            Plan plan = new Plan();
            int n = 0;
            do {
                String w = peekWord();
                int start = p;
                if (!Set.of("rooms", "door", "head", "delay", "most", "sense", "linger").contains(w)) {
                    throw new Fault(start, 0);
                }
                if (n == 40 || n == 0 && !w.equals("rooms") || n > 0 && w.equals("rooms")
                    || w.equals("door") && plan.doors.size() == 10 || w.equals("head") && plan.heads.size() == 6
                    || w.equals("sense") && plan.senses.size() == 6 || w.equals("linger") && plan.linger >= 0) {
                    throw new Fault(start, 4);
                }
                p += w.length();
                clause(plan, w);
                n++;
            } while (more());
            return plan;
        }

        private void clause(Plan plan, String w) {
            int last = plan.rooms - 1;
            switch (w) {
                case "rooms": plan.rooms = number(2, 6); break;
                case "linger": plan.linger = number(0, 9); break;
                case "sense": plan.senses.add(number(1, (1 << plan.rooms) - 1)); break;
                case "head": plan.heads.add(new int[] {number(0, last), number(1, 4)}); break;
                case "delay": plan.delay[number(0, last)] = number(0, 5); break;
                case "most": plan.most[number(0, last)] = number(1, 99); break;
                default:
                    int a = number(0, last);
                    peek();
                    int at = p;
                    int b = number(0, last);
                    for (int[] d : plan.doors) {
                        if (Arrays.equals(d, new int[] {a, b}) || Arrays.equals(d, new int[] {b, a})) {
                            throw new Fault(at, 1);
                        }
                    }
                    if (a == b) {
                        throw new Fault(at, 1);
                    }
                    plan.doors.add(new int[] {a, b});
            }
        }

        List<Clause> rule() {
            List<Clause> out = new ArrayList<>();
            do {
                if (!peekWord().equals("go")) {
                    throw new Fault(p, 0);
                }
                if (out.size() == 12) {
                    throw new Fault(p, 4);
                }
                p += 2;
                Value sum = sum();
                Test test = null;
                if (peekWord().equals("if")) {
                    p += 2;
                    test = test(0);
                }
                out.add(new Clause(sum, test));
            } while (more());
            return out;
        }

        Value sum() {
            Value left = term();
            while (peek() == '+' || peek() == '-') {
                boolean plus = t[p++] == '+';
                Value a = left;
                Value b = term();
                left = plus ? (l, h) -> a.of(l, h) + b.of(l, h) : (l, h) -> a.of(l, h) - b.of(l, h);
            }
            return left;
        }

        Value term() {
            Value left = value();
            while (peek() == '*' || peek() == '/') {
                boolean times = t[p++] == '*';
                Value a = left;
                Value b = value();
                left = times ? (l, h) -> a.of(l, h) * b.of(l, h)
                    : (l, h) -> b.of(l, h) == 0 ? 0 : a.of(l, h) / b.of(l, h);
            }
            return left;
        }

        Value value() {
            int b = peek();
            int start = p;
            if (b >= '0' && b <= '9') {
                int n = number(0, 99999);
                use(start);
                return (l, h) -> n;
            }
            String w = peekWord();
            if (!VALUES.contains(w)) {
                throw new Fault(start, 0);
            }
            use(start);
            p += w.length();
            return (l, h) -> l.word(w, h);
        }

        private void use(int place) {
            if (used == 60) {
                throw new Fault(place, 3);
            }
            used++;
        }

        Test test(int depth) {
            Test left = part(depth);
            while (peekWord().equals("or")) {
                p += 2;
                Test a = left;
                Test b = part(depth);
                left = (l, h) -> a.of(l, h) || b.of(l, h);
            }
            return left;
        }

        Test part(int depth) {
            Test left = fact(depth);
            while (peekWord().equals("and")) {
                p += 3;
                Test a = left;
                Test b = fact(depth);
                left = (l, h) -> a.of(l, h) && b.of(l, h);
            }
            return left;
        }

        Test fact(int depth) {
            boolean not = peekWord().equals("not");
            if (not || peek() == '[') {
                if (depth == 10) {
                    throw new Fault(p, 2);
                }
                p += not ? 3 : 1;
                if (not) {
                    Test a = fact(depth + 1);
                    return (l, h) -> !a.of(l, h);
                }
                Test inner = test(depth + 1);
                if (peek() != ']') {
                    throw new Fault(p, 0);
                }
                p++;
                return inner;
            }
            Value a = sum();
            int b = peek();
            int start = p;
            if (b != '<' && b != '=' && b != '>') {
                throw new Fault(start, 0);
            }
            use(start);
            p++;
            boolean orSame = b != '=' && p < t.length && t[p] == '=';
            if (orSame) {
                p++;
            }
            Value c = sum();
            return (l, h) -> {
                long x = a.of(l, h);
                long y = c.of(l, h);
                return b == '=' ? x == y : b == '<' ? x < y || orSame && x == y : x > y || orSame && x == y;
            };
        }
    }

    private record Told(int minutes, int sense, int halves) { }

    private static final class World {
        Life life;
        List<Life> undos = new ArrayList<>();
        List<Told> told = new ArrayList<>();
        int x;

        World copy() {
            World w = new World();
            w.life = life == null ? null : new Life(life);
            for (Life l : undos) {
                w.undos.add(new Life(l));
            }
            w.told.addAll(told);
            w.x = x;
            return w;
        }
    }

    private byte[] tape = new byte[0];
    private final List<List<Clause>> rules = new ArrayList<>();
    private final World[] images = new World[4];
    private World w = new World();

    int feed(int a, int b, int c, int d, int e) {
        if (tape.length > 380) {
            return -1;
        }
        int n = tape.length;
        tape = Arrays.copyOf(tape, n + 20);
        int[] five = {a, b, c, d, e};
        for (int i = 0; i < 20; i++) {
            tape[n + i] = (byte) (five[i / 4] >>> 24 - 8 * (i % 4));
        }
        return tape.length;
    }

    int end(int n) {
        if (n < 0 || n > tape.length) {
            return -1;
        }
        tape = Arrays.copyOf(tape, n);
        return n;
    }

    int house() {
        byte[] text = tape;
        tape = new byte[0];
        try {
            Plan plan = new Text(text).plan();
            w.life = new Life(plan);
            w.undos.clear();
            w.told.clear();
            return plan.heads.size();
        } catch (Fault f) {
            return -2 - f.code;
        }
    }

    int rule() {
        if (rules.size() == 6) {
            return -1;
        }
        byte[] text = tape;
        tape = new byte[0];
        try {
            rules.add(new Text(text).rule());
            return rules.size() - 1;
        } catch (Fault f) {
            return -2 - f.code;
        }
    }

    private boolean isHead(int h) {
        return w.life != null && h >= 0 && h < w.life.at.length;
    }

    private boolean isRoom(int r) {
        return w.life != null && r >= 0 && r < w.life.plan.rooms;
    }

    private boolean isDoor(int d) {
        return w.life != null && d >= 0 && d < w.life.open.length;
    }

    private boolean isSense(int s) {
        return w.life != null && s >= 0 && s < w.life.plan.senses.size();
    }

    private boolean isLiving(int h) {
        return isHead(h) && w.life.lives(h);
    }

    int head(int h, int what) {
        if (!isHead(h) || what < 0 || what > 5) {
            return -1;
        }
        Life l = w.life;
        int[] all = {l.at[h], l.halves(h), l.plan.heads.get(h)[0], l.came[h], l.gone[h],
            l.lives(h) ? 0 : l.counts(h) ? 1 : 2};
        return all[what];
    }

    int room(int r, int what) {
        if (!isRoom(r) || what < 0 || what > 5) {
            return -1;
        }
        Life l = w.life;
        int living = 0;
        for (int h = 0; h < l.at.length; h++) {
            living += l.lives(h) && l.at[h] == r ? 1 << h : 0;
        }
        int doors = 0;
        for (int o = 0; o < l.plan.rooms; o++) {
            doors += l.linked(r, o) ? 1 << o : 0;
        }
        int[] all = {l.counts()[r], l.felt(r), living, l.plan.most[r], l.plan.delay[r], doors};
        return all[what];
    }

    int door(int d, int what) {
        if (!isDoor(d) || what < 0 || what > 2) {
            return -1;
        }
        return what == 2 ? w.life.open[d] ? 1 : 0 : w.life.plan.doors.get(d)[what];
    }

    int sense(int s, int what) {
        if (!isSense(s) || what < 0 || what > 1) {
            return -1;
        }
        return what == 0 ? w.life.plan.senses.get(s) : w.life.feltBy(s);
    }

    int was(int r, int ago) {
        return !isRoom(r) || ago < 0 || ago > 9 || ago > w.life.minute ? -1 : w.life.ago(r, ago);
    }

    private int pass(int h, int r, boolean backwards) {
        w.undos.add(new Life(w.life));
        if (w.undos.size() > 20) {
            w.undos.remove(0);
        }
        w.life.pass(h, r, backwards);
        return w.life.minute;
    }

    int go(int h, int r, boolean backwards) {
        return isHead(h) && isRoom(r) && w.life.minute < 9999 && w.life.canGo(h, r) ? pass(h, r, backwards) : -1;
    }

    int rest() {
        return w.life != null && w.life.minute < 9999 ? pass(-1, -1, false) : -1;
    }

    boolean die(int h) {
        if (!isLiving(h)) {
            return false;
        }
        w.life.diedAt[h] = w.life.minute;
        return true;
    }

    boolean open(int d, boolean is) {
        if (!isDoor(d) || w.life.open[d] == is) {
            return false;
        }
        w.life.open[d] = is;
        return true;
    }

    int undo() {
        if (w.undos.isEmpty()) {
            return -1;
        }
        w.life = w.undos.remove(w.undos.size() - 1);
        return w.undos.size();
    }

    private int wish(int rule, int h) {
        for (Clause c : rules.get(rule)) {
            if (c.test == null || c.test.of(w.life, h)) {
                long r = c.sum.of(w.life, h);
                return r >= 0 && r < w.life.plan.rooms && w.life.canGo(h, (int) r) ? (int) r : -2;
            }
        }
        return -2;
    }

    int run(int rule, int n) {
        if (w.life == null || rule < 0 || rule >= rules.size() || n < 1 || n > 60 || w.life.minute + n > 9999) {
            return -1;
        }
        for (int i = 0; i < n; i++) {
            int goer = -1;
            int room = -1;
            for (int h = w.life.at.length - 1; h >= 0; h--) {
                if (w.life.lives(h) && wish(rule, h) >= 0) {
                    goer = h;
                    room = wish(rule, h);
                }
            }
            pass(goer, room, false);
        }
        return w.life.minute;
    }

    int would(int rule, int h) {
        return rule < 0 || rule >= rules.size() || !isLiving(h) ? -1 : wish(rule, h);
    }

    int tell(int minutes, int sense, int halves) {
        if (minutes == -1) {
            w.told.clear();
            return 0;
        }
        if (minutes < 0 || minutes > 8 || !isSense(sense) || halves < 0 || halves > 99 || w.told.size() == 12) {
            return -2;
        }
        w.told.add(new Told(minutes, sense, halves));
        return w.told.size();
    }

    /** Rows of rooms, of the dead -1. */
    private List<Integer> situation() {
        List<Integer> out = new ArrayList<>();
        for (int h = 0; h < w.life.at.length; h++) {
            out.add(w.life.lives(h) ? w.life.at[h] : -1);
        }
        return out;
    }

    private int[] countsOf(List<Integer> s) {
        int[] c = new int[w.life.plan.rooms];
        for (int h = 0; h < s.size(); h++) {
            if (s.get(h) >= 0) {
                c[s.get(h)] += w.life.halves(h);
            }
        }
        return c;
    }

    private int countBy(int sense, List<Integer> s) {
        int n = 0;
        int[] c = countsOf(s);
        for (int r = 0; r < c.length; r++) {
            n += (w.life.plan.senses.get(sense) >> r & 1) * c[r];
        }
        return n;
    }

    private List<Integer> allSenses(List<Integer> s) {
        List<Integer> out = new ArrayList<>();
        for (int i = 0; i < w.life.plan.senses.size(); i++) {
            out.add(countBy(i, s));
        }
        return out;
    }

    private boolean holds(List<Integer> s) {
        int[] c = countsOf(s);
        for (int r = 0; r < c.length; r++) {
            if (c[r] > w.life.plan.most[r]) {
                return false;
            }
        }
        return true;
    }

    /** A head and a room of each going that could be. */
    private List<int[]> goings(List<Integer> s) {
        List<int[]> out = new ArrayList<>();
        int[] c = countsOf(s);
        for (int h = 0; h < s.size(); h++) {
            for (int r = 0; r < c.length; r++) {
                if (s.get(h) >= 0 && w.life.linked(s.get(h), r) && c[r] + w.life.halves(h) <= w.life.plan.most[r]) {
                    out.add(new int[] {h, r});
                }
            }
        }
        return out;
    }

    private static List<Integer> moved(List<Integer> s, int[] going) {
        List<Integer> out = new ArrayList<>(s);
        out.set(going[0], going[1]);
        return out;
    }

    /** The ends of all movings that fit the first so many told, one for each moving. */
    private List<List<Integer>> ends(int told) {
        int last = 0;
        for (Told t : w.told.subList(0, told)) {
            last = Math.max(last, t.minutes);
        }
        List<List<Integer>> out = new ArrayList<>();
        walk(situation(), 0, last, told, out);
        return out;
    }

    private void walk(List<Integer> s, int minute, int last, int told, List<List<Integer>> out) {
        for (Told t : w.told.subList(0, told)) {
            if (t.minutes == minute && countBy(t.sense, s) != t.halves) {
                return;
            }
        }
        if (minute == last) {
            out.add(s);
            return;
        }
        walk(s, minute + 1, last, told, out);
        for (int[] g : goings(s)) {
            walk(moved(s, g), minute + 1, last, told, out);
        }
    }

    long fits() {
        return w.life == null ? -1 : ends(w.told.size()).size();
    }

    int who(int h) {
        if (!isLiving(h)) {
            return -1;
        }
        int bits = 0;
        for (List<Integer> s : ends(w.told.size())) {
            bits |= 1 << s.get(h);
        }
        return bits;
    }

    int first() {
        if (w.life == null) {
            return -1;
        }
        for (int i = 0; i < w.told.size(); i++) {
            if (ends(i + 1).isEmpty()) {
                return i;
            }
        }
        return -2;
    }

    int next(int what) {
        if (w.life == null || what < 0 || what > 2) {
            return -1;
        }
        Set<List<Integer>> all = new HashSet<>(ends(w.told.size()));
        if (what == 1) {
            return all.size();
        }
        int best = -2;
        int bestStay = -2;
        for (int r = 0; r < w.life.plan.rooms && !all.isEmpty(); r++) {
            Map<Integer, Integer> groups = new HashMap<>();
            for (List<Integer> s : all) {
                groups.merge(countsOf(s)[r], 1, Integer::sum);
            }
            int stay = groups.values().stream().max(Integer::compare).orElse(0);
            if (best == -2 || stay < bestStay) {
                best = r;
                bestStay = stay;
            }
        }
        return what == 0 ? best : bestStay;
    }

    int known(int set) {
        if (w.life == null || set < 0 || set >= 1 << w.life.plan.rooms) {
            return -1;
        }
        List<Integer> now = situation();
        Map<String, Set<String>> byChange = new HashMap<>();
        for (int[] g : goings(now)) {
            int[] before = countsOf(now);
            int[] after = countsOf(moved(now, g));
            StringBuilder change = new StringBuilder();
            boolean any = false;
            for (int r = 0; r < before.length; r++) {
                if ((set >> r & 1) == 1) {
                    change.append(after[r] - before[r]).append(' ');
                    any |= after[r] != before[r];
                }
            }
            if (!any) {
                return 0;
            }
            byChange.computeIfAbsent(change.toString(), k -> new HashSet<>()).add(now.get(g[0]) + ">" + g[1]);
        }
        for (Set<String> ways : byChange.values()) {
            if (ways.size() > 1) {
                return 0;
            }
        }
        return 1;
    }

    int watch() {
        if (w.life == null) {
            return -1;
        }
        int best = -1;
        for (int set = (1 << w.life.plan.rooms) - 1; set >= 0; set--) {
            if (known(set) == 1 && (best < 0 || Integer.bitCount(set) <= Integer.bitCount(best))) {
                best = set;
            }
        }
        return best;
    }

    /** All rows of rooms that come of one by goings at once, the least first, with how many went. */
    private Map<List<Integer>, Integer> atOnce(List<Integer> s, int most) {
        Map<List<Integer>, Integer> out = new LinkedHashMap<>();
        List<Integer> felt = allSenses(s);
        int rooms = w.life.plan.rooms;
        int all = 1;
        for (int i = 0; i < s.size(); i++) {
            all *= rooms;
        }
        for (int code = 0; code < all; code++) {
            List<Integer> row = new ArrayList<>();
            int gone = 0;
            boolean can = true;
            int rest = code;
            for (int h = s.size() - 1; h >= 0; h--) {
                int r = rest % rooms;
                rest /= rooms;
                if (s.get(h) < 0) {
                    can &= r == 0;
                    row.add(0, -1);
                } else {
                    gone += r == s.get(h) ? 0 : 1;
                    can &= r == s.get(h) || w.life.linked(s.get(h), r);
                    row.add(0, r);
                }
            }
            if (can && gone > 0 && gone <= most && holds(row) && allSenses(row).equals(felt)) {
                out.put(row, gone);
            }
        }
        return out;
    }

    int secret(int h, int r, int what) {
        if (!isLiving(h) || !isRoom(r) || w.life.at[h] == r || what < 0 || what > 6) {
            return -1;
        }
        List<Integer> best = null;
        int fewest = 7;
        for (Map.Entry<List<Integer>, Integer> e : atOnce(situation(), 6).entrySet()) {
            if (e.getKey().get(h) == r && e.getValue() < fewest) {
                best = e.getKey();
                fewest = e.getValue();
            }
        }
        if (best == null) {
            return -2;
        }
        return what == 0 ? fewest : what - 1 < best.size() ? best.get(what - 1) : -1;
    }

    int theft(int h, int r, int what) {
        if (!isLiving(h) || !isRoom(r) || what < 0 || what > 1) {
            return -1;
        }
        List<List<Integer>> order = new ArrayList<>();
        Map<List<Integer>, int[]> came = new HashMap<>();
        order.add(situation());
        came.put(situation(), new int[] {0, 0});
        if (w.life.at[h] == r) {
            return 0;
        }
        for (int i = 0; i < order.size(); i++) {
            int[] before = came.get(order.get(i));
            for (Map.Entry<List<Integer>, Integer> e : atOnce(order.get(i), 2).entrySet()) {
                int[] now = {before[0] + 1, before[1] + e.getValue()};
                if (e.getKey().get(h) == r) {
                    return now[what];
                }
                if (!came.containsKey(e.getKey())) {
                    if (order.size() == 1000) {
                        return -3;
                    }
                    came.put(e.getKey(), now);
                    order.add(e.getKey());
                }
            }
        }
        return -2;
    }

    /** The fewest minutes from a situation on; -2. */
    private int minutesTo(List<Integer> from, int r, int halves) {
        Set<List<Integer>> seen = new HashSet<>(Set.of(from));
        List<List<Integer>> level = List.of(from);
        for (int minutes = 0; !level.isEmpty(); minutes++) {
            List<List<Integer>> after = new ArrayList<>();
            for (List<Integer> s : level) {
                if (countsOf(s)[r] == halves) {
                    return minutes;
                }
                for (int[] g : goings(s)) {
                    if (seen.add(moved(s, g))) {
                        after.add(moved(s, g));
                    }
                }
            }
            level = after;
        }
        return -2;
    }

    int gather(int r, int halves, int what) {
        if (!isRoom(r) || halves < 0 || halves > 99 || what < 0 || what > 2) {
            return -1;
        }
        int all = minutesTo(situation(), r, halves);
        if (what == 0 || all <= 0) {
            return what == 0 ? all : -2;
        }
        for (int[] g : goings(situation())) {
            if (minutesTo(moved(situation(), g), r, halves) == all - 1) {
                return g[what - 1];
            }
        }
        throw new IllegalStateException();
    }

    long messages(int h, int n) {
        if (!isLiving(h) || n < 0 || n > 12) {
            return -1;
        }
        Set<String> rows = new HashSet<>();
        wander(situation(), h, n, "", rows);
        return rows.size();
    }

    private void wander(List<Integer> s, int h, int n, String row, Set<String> rows) {
        if (n == 0) {
            rows.add(row);
            return;
        }
        wander(s, h, n - 1, row + allSenses(s), rows);
        for (int[] g : goings(s)) {
            if (g[0] == h) {
                List<Integer> there = moved(s, g);
                wander(there, h, n - 1, row + allSenses(there), rows);
            }
        }
    }

    int swaps(int what) {
        if (w.life == null || what < 0 || what > 1) {
            return -1;
        }
        List<Integer> s = situation();
        int n = 0;
        for (int a = 0; a < s.size(); a++) {
            for (int b = a + 1; b < s.size(); b++) {
                if (s.get(a) >= 0 && s.get(b) >= 0 && w.life.linked(s.get(a), s.get(b))) {
                    List<Integer> changed = moved(moved(s, new int[] {a, s.get(b)}), new int[] {b, s.get(a)});
                    n += what == 1 || allSenses(changed).equals(allSenses(s)) ? 1 : 0;
                }
            }
        }
        return n;
    }

    int seed(int x) {
        if (x < 0) {
            return -1;
        }
        int was = w.x;
        w.x = x;
        return was;
    }

    int nights(int m, int n, int sense, int bar, int what) {
        if (m < 1 || m > 20 || n < 1 || n > 100 || !isSense(sense) || bar < 0 || bar > 99 || what < 0 || what > 1) {
            return -1;
        }
        long x = w.x;
        int[] answers = new int[2];
        for (int night = 0; night < m; night++) {
            Life l = new Life(w.life);
            for (int i = 0; i < n; i++) {
                x = (x * 1103515245L + 12345L) % 2147483648L;
                int h = (int) (x / 65536 % (l.at.length + 1));
                int room = -1;
                if (h < l.at.length && l.lives(h) && !l.ways(h).isEmpty()) {
                    x = (x * 1103515245L + 12345L) % 2147483648L;
                    room = l.ways(h).get((int) (x / 65536 % l.ways(h).size()));
                    answers[1]++;
                }
                l.pass(room < 0 ? -1 : h, room, false);
                answers[0] += l.feltBy(sense) >= bar ? 1 : 0;
            }
        }
        return answers[what];
    }

    int count(int what) {
        Life l = w.life;
        boolean no = l == null;
        switch (what) {
            case 0: return no ? 0 : l.plan.rooms;
            case 1: return no ? 0 : l.plan.doors.size();
            case 2: return no ? 0 : l.plan.heads.size();
            case 3: return no ? 0 : l.plan.senses.size();
            case 4: return rules.size();
            case 5: return no ? 0 : l.minute;
            case 6:
                int living = 0;
                for (int h = 0; !no && h < l.at.length; h++) {
                    living += l.lives(h) ? 1 : 0;
                }
                return living;
            case 7: return no ? 0 : l.echoesNow();
            case 8: return w.told.size();
            case 9: return w.undos.size();
            case 10: return no ? 0 : Arrays.stream(l.gone).sum();
            case 11: return no ? -1 : l.plan.lingering();
            case 12: return w.x;
            case 13: return tape.length;
            default: return -1;
        }
    }

    int image(int k) {
        if (k < 0 || k > 3) {
            return -1;
        }
        images[k] = w.copy();
        return count(5);
    }

    int back(int k) {
        if (k < 0 || k > 3 || images[k] == null) {
            return -1;
        }
        w = images[k].copy();
        return count(5);
    }
}
