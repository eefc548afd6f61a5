import java.util.Random;

/** Runs of calls by draws of a fixed seed, each answer held against the Oracle's. */
public final class RandomRunsTest {
    private static final String[] WORDS = {"head", "halves", "at", "home", "came", "here", "few", "crowd", "least",
        "greatest", "gone", "minute"};
    private static final String[] SIGNS = {"<", "<=", "=", ">=", ">"};

    private final Check check;
    private final Random random;
    private HeadCounts x;
    private Oracle o;
    private int run;
    private int mostHeads = 4;
    private String last = "";

    private RandomRunsTest(Check check, long seed) {
        this.check = check;
        this.random = new Random(seed);
    }

    private int to(int n) {
        return random.nextInt(n);
    }

    /** Mostly 0 to n - 1, seldom beside it or far off. */
    private int near(int n) {
        if (to(60) == 0) {
            return to(2) == 0 ? Integer.MIN_VALUE + to(2) : Integer.MAX_VALUE - to(2);
        }
        return to(12) == 0 ? to(2) == 0 ? -1 - to(3) : n + to(3) : to(Math.max(n, 1));
    }

    private String blank() {
        return to(4) == 0 ? "  ".substring(to(2)) : "";
    }

    private String house(int mostRooms, int mostHeads) {
        int rooms = 2 + to(mostRooms - 1);
        StringBuilder b = new StringBuilder("rooms ").append(rooms);
        StringBuilder taken = new StringBuilder();
        for (int i = 0; i < 12 && taken.length() < 4 * 10; i++) {
            int p = to(rooms);
            int q = to(rooms);
            String key = "" + Math.min(p, q) + Math.max(p, q) + ".";
            if (p != q && taken.indexOf(key) < 0 && to(4) != 0) {
                taken.append(key);
                b.append(blank()).append(';').append(blank()).append("door ").append(p).append(' ').append(q);
            }
        }
        int heads = to(mostHeads + 1);
        for (int i = 0; i < heads; i++) {
            b.append(";head ").append(to(rooms)).append(' ').append(1 + to(4));
        }
        for (int i = to(4); i > 0; i--) {
            b.append(";sense ").append(1 + to((1 << rooms) - 1));
        }
        for (int i = to(3); i > 0; i--) {
            b.append(";delay").append(to(rooms)).append(' ').append(to(6));
        }
        for (int i = to(3); i > 0; i--) {
            b.append(";most ").append(to(rooms)).append(' ').append(1 + to(9));
        }
        if (to(3) != 0) {
            b.append(";linger ").append(to(10));
        }
        return b.toString();
    }

    private String value() {
        return to(3) == 0 ? "" + (to(9) == 0 ? to(100000) : to(7)) : WORDS[to(WORDS.length)];
    }

    private String sum(int most) {
        StringBuilder b = new StringBuilder(value());
        for (int i = to(most); i > 0; i--) {
            b.append(blank()).append("+-*/".charAt(to(4))).append(blank()).append(value());
        }
        return b.toString();
    }

    private String test(int depth) {
        StringBuilder b = new StringBuilder(fact(depth));
        for (int i = to(3); i > 0; i--) {
            b.append(to(2) == 0 ? " and " : " or ").append(fact(depth));
        }
        return b.toString();
    }

    private String fact(int depth) {
        int kind = depth <= 0 ? 2 : to(4);
        if (kind == 0) {
            return "not " + fact(depth - 1);
        }
        return kind == 1 ? "[" + test(depth - 1) + "]" : sum(2) + blank() + SIGNS[to(5)] + blank() + sum(2);
    }

    private String rule() {
        StringBuilder b = new StringBuilder();
        int clauses = to(20) == 0 ? 12 + to(2) : 1 + to(4);
        for (int i = 0; i < clauses; i++) {
            b.append(i == 0 ? "" : ";").append("go ").append(to(2) == 0 ? to(2) == 0 ? "few" : "crowd" : sum(3));
            if (to(3) != 0) {
                b.append(" if ").append(test(to(12) == 0 ? 12 : 2));
            }
        }
        return b.toString();
    }

    private String deepRule() {
        StringBuilder b = new StringBuilder("go 1 if ");
        StringBuilder ends = new StringBuilder();
        for (int i = 8 + to(5); i > 0; i--) {
            if (to(2) == 0) {
                b.append("not ");
            } else {
                b.append('[');
                ends.append(']');
            }
        }
        return b.append("at<2").append(ends).toString();
    }

    private String longRule() {
        StringBuilder b = new StringBuilder("go 1");
        for (int i = 50 + to(12); i > 0; i--) {
            b.append('+').append(to(30) == 0 ? "at" : "" + to(10));
        }
        return b.append(to(2) == 0 ? " if 1=1 and 2 < 3" : "").toString();
    }

    private String broken(String text) {
        StringBuilder b = new StringBuilder(text);
        for (int i = 1 + to(2); i > 0 && b.length() > 0; i--) {
            int at = to(b.length());
            switch (to(4)) {
                case 0: b.deleteCharAt(at); break;
                case 1: b.insert(at, ";[]<=> 0129+-*/aotn".charAt(to(19))); break;
                case 2: b.setCharAt(at, (char) to(256)); break;
                default: b.setLength(at);
            }
        }
        return b.toString();
    }

    private void feed(String text) {
        String cut = text.length() > 400 ? text.substring(0, 400) : text;
        due("end(0)", x.end(0), o.end(0));
        for (int start = 0; start < cut.length(); start += 20) {
            int[] f = new int[5];
            for (int i = 0; i < 20; i++) {
                f[i / 4] = f[i / 4] << 8 | (start + i < cut.length() ? cut.charAt(start + i) & 255 : 0);
            }
            due("feed", x.feed(f[0], f[1], f[2], f[3], f[4]), o.feed(f[0], f[1], f[2], f[3], f[4]));
        }
        due("end", x.end(cut.length()), o.end(cut.length()));
        last = cut;
    }

    private void due(String call, long got, long want) {
        check.due("run " + run + ": " + call + (got == want ? "" : " behind '" + last + "'"), got, want);
    }

    private void due(String call, boolean got, boolean want) {
        due(call, got ? 1 : 0, want ? 1 : 0);
    }

    private void lookAtAll() {
        for (int what = -1; what < 15; what++) {
            due("count " + what, x.count(what), o.count(what));
        }
        for (int i = -1; i < 7; i++) {
            for (int what = -1; what < 7; what++) {
                due("head " + i + " " + what, x.head(i, what), o.head(i, what));
                due("room " + i + " " + what, x.room(i, what), o.room(i, what));
            }
            for (int what = -1; what < 4; what++) {
                due("door " + i + " " + what, x.door(i, what), o.door(i, what));
                due("sense " + i + " " + what, x.sense(i, what), o.sense(i, what));
            }
            for (int ago = -1; ago < 11; ago++) {
                due("was " + i + " " + ago, x.was(i, ago), o.was(i, ago));
            }
        }
    }

    private void change(int rooms) {
        int h = near(mostHeads);
        int r = near(rooms);
        switch (to(16)) {
            case 0: case 1: case 2: case 3: case 4: {
                boolean back = to(2) == 0;
                due("go " + h + " " + r + " " + back, x.go(h, r, back), o.go(h, r, back));
                break;
            }
            case 5: due("rest", x.rest(), o.rest()); break;
            case 6:
                if (to(3) == 0) {
                    due("die " + h, x.die(h), o.die(h));
                }
                break;
            case 7: case 8: {
                int d = near(4);
                boolean is = to(2) == 0;
                due("open " + d, x.open(d, is), o.open(d, is));
                break;
            }
            case 9: due("undo", x.undo(), o.undo()); break;
            case 10: case 11: {
                int n = to(8) == 0 ? near(62) : 1 + to(4);
                int rule = near(3);
                due("run " + rule + " " + n, x.run(rule, n), o.run(rule, n));
                break;
            }
            case 12: {
                int k = near(4);
                due("image", x.image(k), o.image(k));
                break;
            }
            case 13:
                if (to(2) == 0) {
                    int k = near(4);
                    due("back", x.back(k), o.back(k));
                }
                break;
            case 14: {
                int s = to(5) == 0 ? -1 - to(5) : random.nextInt() >>> 1;
                due("seed", x.seed(s), o.seed(s));
                break;
            }
            default: {
                int minutes = to(10) == 0 ? near(9) : to(4) - (to(5) == 0 ? 1 : 0);
                int sense = near(3);
                int halves = to(20) == 0 ? near(100) : to(9);
                if (minutes < (mostHeads > 4 ? 3 : 5)) {
                    due("tell", x.tell(minutes, sense, halves), o.tell(minutes, sense, halves));
                }
            }
        }
    }

    private void ask(int rooms) {
        int h = near(mostHeads);
        int r = near(rooms);
        int what = near(3);
        switch (to(11)) {
            case 0: due("fits", x.fits(), o.fits()); due("first", x.first(), o.first()); break;
            case 1: due("who " + h, x.who(h), o.who(h)); break;
            case 2: due("next " + what, x.next(what), o.next(what)); break;
            case 3: {
                int set = near(1 << rooms);
                due("known " + set, x.known(set), o.known(set));
                due("watch", x.watch(), o.watch());
                break;
            }
            case 4: {
                int w = near(7);
                due("secret " + h + " " + r + " " + w, x.secret(h, r, w), o.secret(h, r, w));
                break;
            }
            case 5:
                if (mostHeads > 4) {
                    break;
                }
                due("theft " + h + " " + r + " " + what, x.theft(h, r, what), o.theft(h, r, what));
                break;
            case 6: {
                int halves = to(9) == 0 ? near(100) : to(12);
                due("gather " + r + " " + halves + " " + what, x.gather(r, halves, what), o.gather(r, halves, what));
                break;
            }
            case 7: {
                int n = to(9) == 0 ? -1 : to(5);
                due("messages " + h + " " + n, x.messages(h, n), o.messages(h, n));
                break;
            }
            case 8: due("swaps " + what, x.swaps(what), o.swaps(what)); break;
            case 9: {
                int m = near(5);
                int n = near(12);
                int s = near(3);
                int bar = near(9);
                due("nights", x.nights(m, n, s, bar, what), o.nights(m, n, s, bar, what));
                break;
            }
            default: {
                int rule = near(3);
                due("would " + rule + " " + h, x.would(rule, h), o.would(rule, h));
            }
        }
    }

    private void oneRun(int number) {
        run = number;
        x = new HeadCounts();
        o = new Oracle();
        int rooms = mostHeads > 4 ? 6 : 2 + to(3);
        for (int i = 0; i < 120; i++) {
            int kind = i == 1 ? 0 : i == 2 || i == 3 ? 20 : to(60);
            if (kind == 0) {
                feed(to(4) == 0 && i > 1 ? broken(house(6, 6)) : house(rooms, mostHeads));
                due("house", x.house(), o.house());
            } else if (kind == 20) {
                String text = to(6) == 0 ? deepRule() : to(6) == 0 ? longRule() : rule();
                feed(to(3) == 0 ? broken(text) : text);
                due("rule", x.rule(), o.rule());
            } else if (kind < 36) {
                change(rooms);
            } else {
                ask(rooms);
            }
            if (i % 10 == 0) {
                lookAtAll();
            }
        }
    }

    private void texts(int many) {
        x = new HeadCounts();
        o = new Oracle();
        for (int i = 0; i < many; i++) {
            run = i;
            boolean isHouse = to(2) == 0;
            String text = isHouse ? house(6, 6) : to(3) == 0 ? deepRule() : to(3) == 0 ? longRule() : rule();
            feed(to(3) == 0 ? text : broken(text));
            due("text", isHouse ? x.house() : x.rule(), isHouse ? o.house() : o.rule());
            if (o.count(4) == 6) {
                x = new HeadCounts();
                o = new Oracle();
            }
        }
    }

    public static void main(String[] args) {
        Check check = new Check("RandomRunsTest");
        RandomRunsTest test = new RandomRunsTest(check, 20261118);
        int runs = args.length > 1 ? Integer.parseInt(args[1]) : 1500;
        test.texts(20 * runs);
        for (int i = 0; i < runs; i++) {
            test.oneRun(i);
        }
        // The oracle is slow in great houses, so there are few of these.
        test.mostHeads = 6;
        for (int i = 0; i < runs / 20; i++) {
            test.oneRun(runs + i);
        }
        check.close();
    }
}
