/** Counts the answers that are not as due, and tells them. */
final class Check {
    /** Whether a test ends by an exception at its first wrong answer: Mutants asks no more of it. */
    private static final boolean STOPS = Boolean.getBoolean("check.stops");

    private final String name;
    private int asked;
    private int wrong;

    Check(String name) {
        this.name = name;
    }

    void due(String call, long got, long want) {
        asked++;
        if (got != want) {
            if (STOPS) {
                throw new IllegalStateException(call);
            }
            wrong++;
            if (wrong <= 20) {
                System.out.println(name + ": " + call + " answered " + got + ", due is " + want);
            }
        }
    }

    void due(String call, boolean got, boolean want) {
        due(call, got ? 1 : 0, want ? 1 : 0);
    }

    /** Ends the test: with exit code 1 if an answer was wrong, or none was asked for. */
    void close() {
        System.out.println(name + ": " + (asked - wrong) + " of " + asked + " answers as due");
        if (wrong != 0 || asked == 0) {
            System.exit(1);
        }
    }

    /** Puts a text behind the tape, zeros behind it cut off. */
    static void feed(HeadCounts x, String text) {
        int before = x.count(13);
        for (int start = 0; start < text.length(); start += 20) {
            int[] five = new int[5];
            for (int i = 0; i < 20; i++) {
                int sign = start + i < text.length() ? text.charAt(start + i) & 255 : 0;
                five[i / 4] = five[i / 4] << 8 | sign;
            }
            x.feed(five[0], five[1], five[2], five[3], five[4]);
        }
        x.end(before + text.length());
    }

    static int house(HeadCounts x, String text) {
        x.end(0);
        feed(x, text);
        return x.house();
    }

    static int rule(HeadCounts x, String text) {
        x.end(0);
        feed(x, text);
        return x.rule();
    }

    /** An object with a house that has no fault. */
    static HeadCounts in(String text) {
        HeadCounts x = new HeadCounts();
        int answer = house(x, text);
        if (answer < 0) {
            throw new IllegalStateException(text + " has a fault: " + answer);
        }
        return x;
    }

    /** What house and rule answer of a fault. */
    static int fault(int place, int why) {
        return -2 - (1 + 8 * place + why);
    }
}
