import java.math.BigInteger;

/** Part III of the terms: goings at once, gatherings, draws, nights, images. */
final class BoundsOfGoings extends Bounds {
    private static final String STAR = "rooms 6;door 0 5;door 0 4;door 0 3;door 0 2;door 0 1;head 0 1";

    BoundsOfGoings(Sentences s) {
        super(s);
    }

    @Override
    void hold() {
        secrets();
        secretRows();
        thefts();
        thousand();
        goingsOfThefts();
        gathering();
        draws();
        nights();
        nightsAsInTwo();
        images();
    }

    private void secrets() {
        s.hold("SECRET of a HEAD and a ROOM: several go at once, each through a DOOR of its own ROOM (as many as like by one DOOR), "
            + "him to that ROOM, so that behind it no ROOM holds more than it may and no SENSE's COUNT is another: the fewest that "
            + "go (him, too);");
        s.due("him alone", Check.in("rooms 2;door 0 1;head 0 1").secret(0, 1, 0), 1);
        s.due("felt", Check.in("rooms 2;door 0 1;head 0 1;sense 1").secret(0, 1, 0), -2);
        s.due("felt together", Check.in("rooms 2;door 0 1;head 0 1;sense 3").secret(0, 1, 0), 1);
        s.due("another for him", Check.in("rooms 2;door 0 1;head 0 1;head 1 1;sense 1").secret(0, 1, 0), 2);
        s.due("of unlike HALVES", Check.in("rooms 2;door 0 1;head 0 1;head 1 2;sense 1").secret(0, 1, 0), -2);
        s.due("by two DOORS", Check.in("rooms 3;door 0 1;door 1 2;head 0 1").secret(0, 2, 0), -2);
        HeadCounts shut = Check.in("rooms 2;door 0 1;head 0 1");
        shut.open(0, false);
        s.due("SHUT", shut.secret(0, 1, 0), -2);
        s.due("just what it may hold", Check.in("rooms 2;door 0 1;head 0 2;head 1 1;most 1 3").secret(0, 1, 0), 1);
        s.due("more, so one makes way", Check.in("rooms 2;door 0 1;head 0 2;head 1 1;most 1 2").secret(0, 1, 0), 2);
        s.due("and can't", Check.in("rooms 2;door 0 1;head 0 2;head 1 1;most 1 2;most 0 1;head 0 1").secret(0, 1, 0), -2);
        s.due("full is asked behind it alone", Check.in("rooms 2;door 0 1;head 0 4;head 1 4;most 0 4;most 1 4").secret(0, 1, 0), 2);
        s.due("another ROOM holds too much", Check.in("rooms 3;door 0 1;head 0 1;head 2 2;most 2 1").secret(0, 1, 0), -2);
        String five = "rooms 2;door 0 1;head 0 4" + ";head 1 1".repeat(4) + ";sense 1";
        s.due("five by one DOOR", Check.in(five).secret(0, 1, 0), 5);
        s.due("the fewest", Check.in(five + ";head 1 4").secret(0, 1, 0), 2);
        String ring = "rooms 6;door 0 1;door 1 2;door 2 3;door 3 4;door 4 5;door 5 0;head 0 1;head 1 2;head 2 1;head 3 1;head 4 1;"
            + "head 5 1;sense 9;sense 2;sense 4;sense 16;sense 32";
        s.due("1 and 1 for 2 in ROOM 1, and 1 in ROOM 2 again", Check.in(ring).secret(0, 1, 0), 4);
        s.due("two change places", Check.in(ring).secret(3, 4, 0), 2);
        String some = "rooms 2;door 0 1;head 0 3;head 0 1;head 1 2;head 1 2;sense 1";
        s.due("3 and 1 for 2 and 2", Check.in(some).secret(0, 1, 0), 4);
        s.due("3 and 1 for 4", Check.in(some + ";head 1 4").secret(0, 1, 0), 3);
        s.due("4 and 2 for 3 and 3", Check.in("rooms 2;door 0 1;head 0 4;head 0 2;head 1 3;head 1 3;sense 1").secret(0, 1, 0), 4);
    }

    private void secretRows() {
        s.hold("of several ways the first, as a row by HEADS of ROOMS behind it (the least ROOM of the first HEAD ahead, and so on).");
        secretRow(Check.in("rooms 3;door 0 1;head 0 1;head 1 1;head 1 1;sense 1"), 0, 1, 2, 1, 0, 1, -1, -1, -1);
        secretRow(Check.in("rooms 3;door 0 1;head 1 1;head 1 1;head 0 1;sense 1"), 2, 1, 2, 0, 1, 1, -1, -1, -1);
        secretRow(Check.in("rooms 3;door 0 1;door 0 2;head 1 1;head 2 1;head 0 1;sense 1"), 2, 2, 2, 0, 2, 2, -1, -1, -1);
        secretRow(Check.in("rooms 3;door 0 1;door 1 2;head 0 1;head 0 1;head 1 1;sense 2"), 2, 2, 2, 0, 1, 2, -1, -1, -1);
        secretRow(Check.in("rooms 3;door 0 1;door 1 2;head 1 1;head 2 1;head 0 1;head 0 1;head 2 1;head 1 3;sense 2;sense 1"),
            0, 2, 2, 2, 1, 0, 0, 2, 1);
        HeadCounts dead = Check.in("rooms 2;door 0 1;head 0 1;head 0 1;head 1 1;sense 1");
        dead.die(0);
        secretRow(dead, 1, 1, 2, -1, 1, 0, -1, -1, -1);
    }

    private void secretRow(HeadCounts x, int head, int room, int... due) {
        for (int what = 0; what < due.length; what++) {
            s.due("secret(" + head + ", " + room + ", " + what + ")", x.secret(head, room, what), due[what]);
        }
    }

    private void theft(String house, int room, int minutes, int goings) {
        HeadCounts x = Check.in(house);
        s.due("MINUTES to " + room + " in '" + house + "'", x.theft(0, room, 0), minutes);
        s.due("goings to " + room + " in '" + house + "'", x.theft(0, room, 1), goings);
    }

    private void thefts() {
        s.hold("THEFT of a HEAD to a ROOM: MINUTES in each of which one or two go so (at once), without a change of any SENSE's COUNT: "
            + "the fewest behind which he is there.");
        theft("rooms 2;door 0 1;head 0 1", 0, 0, 0);
        theft("rooms 2;door 0 1;head 0 1;head 0 1", 0, 0, 0);
        theft("rooms 2;door 0 1;head 0 1", 1, 1, 1);
        theft("rooms 2;door 0 1;head 0 1;sense 1", 1, -2, -2);
        theft("rooms 2;door 0 1;head 0 1;head 1 1;sense 1", 1, 1, 2);
        theft("rooms 2;door 0 1;head 0 2;head 1 1;head 1 1;sense 1", 1, -2, -2);
        theft("rooms 2;door 0 1;head 1 2;head 0 1;most 0 3", 0, 1, 1);
        theft("rooms 2;door 0 1;head 0 2;head 1 1;most 1 2", 1, 1, 2);
        theft("rooms 2;door 0 1;head 0 2;head 1 1;head 1 1;most 1 2", 1, 2, 3);
        theft("rooms 6;door 0 1;door 1 2;door 2 3;door 3 4;door 4 5;head 0 4", 5, 5, 5);
        theft("rooms 3;door 0 1;head 0 4", 2, -2, -2);
        theft("rooms 4;door 0 1;door 1 2;door 2 3;head 0 2;head 1 2;head 2 2;sense 1;sense 2;sense 4", 2, 2, 4);
        HeadCounts shut = Check.in("rooms 2;door 0 1;head 0 1");
        shut.open(0, false);
        s.due("SHUT", shut.theft(0, 1, 0), -2);
        HeadCounts over = Check.in("rooms 3;door 0 1;head 0 1;head 2 2;most 2 1");
        s.due("a ROOM holds too much behind it", over.theft(0, 1, 0), -2);
    }

    private void thousand() {
        s.hold("SITUATIONS come one from another: from the one that came first on, as rows by HEADS of ROOMS, the least first; 1000 at "
            + "most, that in which it is so not counted: if the 1001st would come ahead of it, it is UNKNOWN.");
        for (Thousand t : Thousand.ALL) {
            HeadCounts x = Check.in(t.house);
            s.due(t.what, x.theft(0, t.room, 0), t.minutes);
            s.due(t.what, x.theft(0, t.room, 1), t.goings);
        }
    }

    /** From the row 0 3 come 0 2, 1 2 and 1 3; from 1 2, ahead of 1 3, come 2 1 and 2 3; from 2 1, ahead of 2 3, comes 3 0. */
    private void goingsOfThefts() {
        s.hold("How many goings were in them in all, by the way by which it came first.");
        theft("rooms 4;door 0 1;door 1 2;door 2 3;head 0 2;head 3 2;most 1 3;most 2 3", 3, 3, 6);
        theft("rooms 2;door 0 1;head 0 2;head 1 1", 1, 1, 2);
        theft("rooms 3;door 0 1;door 1 2;head 0 1;head 2 1", 2, 2, 4);
        theft("rooms 3;door 0 1;door 1 2;head 0 1;head 0 1", 2, 2, 2);
    }

    private void gathering() {
        s.hold("GATHER: the fewest MINUTES (one goes, or nobody) behind which the COUNT of a ROOM is just so many; the first MINUTE of "
            + "it: who goes, and to which ROOM (of all ways of so few the least HEAD, then the least ROOM).");
        String six = "rooms 2;door 0 1" + ";head 0 4".repeat(6);
        gather(six, 1, 0, 0, -2, -2);
        gather(six, 1, 1, -2, -2, -2);
        gather(six, 1, 4, 1, 0, 1);
        gather(six, 1, 24, 6, 0, 1);
        gather(six, 1, 25, -2, -2, -2);
        gather(six, 1, 99, -2, -2, -2);
        gather(six, 0, 24, 0, -2, -2);
        gather(six, 0, 0, 6, 0, 1);
        gather("rooms 2;door 0 1;head 0 2;head 0 1;head 0 1", 1, 1, 1, 1, 1);
        gather("rooms 2;door 0 1;head 0 2;head 0 1;head 0 1", 1, 2, 1, 0, 1);
        gather("rooms 2;door 0 1;head 0 1;head 0 1;head 0 3", 1, 4, 2, 0, 1);
        gather("rooms 2;door 0 1;head 0 1;head 0 1;head 0 3", 0, 1, 2, 0, 1);
        gather("rooms 3;door 0 2;door 0 1;head 0 1", 0, 0, 1, 0, 1);
        gather("rooms 4;door 0 3;door 3 2;door 0 1;door 1 2;head 0 1", 2, 1, 2, 0, 1);
        gather("rooms 4;door 1 2;door 0 1;head 3 1;head 0 2;head 2 1", 1, 1, 1, 2, 1);
        gather("rooms 2;door 0 1;head 0 2;head 1 1;most 1 2", 1, 2, 2, 1, 0);
        gather("rooms 2;door 0 1;head 0 2;head 1 1;most 1 3", 1, 3, 1, 0, 1);
        gather("rooms 2", 0, 0, 0, -2, -2);
        gather("rooms 2", 0, 1, -2, -2, -2);
    }

    private void gather(String house, int room, int halves, int... due) {
        HeadCounts x = Check.in(house);
        for (int what = 0; what < due.length; what++) {
            s.due("gather(" + room + ", " + halves + ", " + what + ") in '" + house + "'", x.gather(room, halves, what), due[what]);
        }
    }

    /** The draws done again by numbers without an end. */
    private static final class Draws {
        private BigInteger x;

        Draws(int seed) {
            x = BigInteger.valueOf(seed);
        }

        int next(int n) {
            x = x.multiply(BigInteger.valueOf(1103515245)).add(BigInteger.valueOf(12345)).mod(BigInteger.valueOf(2147483648L));
            return x.divide(BigInteger.valueOf(65536)).intValueExact() % n;
        }
    }

    private void draws() {
        s.hold("DRAWS: x (0 to 2147483647; 0 at first) becomes x * 1103515245 + 12345, of 2147483648 the rest; a DRAW is x / 65536.");
        s.due("0 at first", new HeadCounts().count(12), 0);
        HeadCounts x = Check.in(STAR + ";sense 8");
        for (int seed : new int[] {0, 1, 2, 12345, 65535, 65536, 1073741824, 2147418112, 2147483646, 2147483647}) {
            x.seed(seed);
            s.due("x", x.count(12), seed);
            int[] due = starNights(seed, 20, 100);
            s.due("felt from x = " + seed, x.nights(20, 100, 0, 1, 0), due[0]);
            s.due("goings from x = " + seed, x.nights(20, 100, 0, 1, 1), due[1]);
        }
    }

    /** One head in the star: in how many minutes it is in room 3, and how often it goes. */
    private static int[] starNights(int seed, int m, int n) {
        return starNights(seed, m, n, 0);
    }

    private static int[] starNights(int seed, int m, int n, int hub) {
        Draws draws = new Draws(seed);
        int[] out = new int[2];
        for (int night = 0; night < m; night++) {
            int at = hub;
            for (int minute = 0; minute < n; minute++) {
                if (draws.next(2) == 0) {
                    int way = draws.next(at == hub ? 5 : 1);
                    at = at != hub ? hub : way < hub ? way : way + 1;
                    out[1]++;
                }
                out[0] += at == 3 ? 1 : 0;
            }
        }
        return out;
    }

    private void nights() {
        s.hold("NIGHTS m times (1 to 20) n MINUTES (1 to 100) from now on, as in II: in each a DRAW mod HEADS and 1 more (that one more: "
            + "nobody goes); of a HEAD that lives, with a ROOM to which it could go, a DRAW mod how many such ROOMS: that one in their "
            + "order: in how many MINUTES, behind them, FELT of a SENSE is a bar or more; goings, all together (nothing stays; x as it "
            + "was).");
        HeadCounts x = Check.in(STAR + ";sense 8");
        for (int[] mn : new int[][] {{1, 1}, {1, 2}, {1, 100}, {2, 1}, {20, 1}, {19, 99}, {20, 100}}) {
            int[] due = starNights(0, mn[0], mn[1]);
            s.due(mn[0] + " times " + mn[1], x.nights(mn[0], mn[1], 0, 1, 0), due[0]);
            s.due(mn[0] + " times " + mn[1], x.nights(mn[0], mn[1], 0, 1, 1), due[1]);
        }
        s.due("nothing stays", x.count(5) + x.count(10) + x.head(0, 0) + x.count(12), 0);
        HeadCounts five = Check.in("rooms 6;door 4 5;door 3 5;door 0 5;door 5 2;door 5 1;head 5 1;sense 8");
        HeadCounts two = Check.in("rooms 6;door 4 2;door 3 2;door 0 2;door 5 2;door 2 1;head 2 1;sense 8");
        s.due("ROOMS in their order, not DOORS", five.nights(20, 100, 0, 1, 0), starNights(0, 20, 100, 5)[0]);
        s.due("ROOMS in their order, not DOORS", two.nights(20, 100, 0, 1, 0), starNights(0, 20, 100, 2)[0]);
        s.due("bar 0: all", x.nights(20, 100, 0, 0, 0), 2000);
        s.due("bar 2: none has it", x.nights(20, 100, 0, 2, 0), 0);
        s.due("bar 99", x.nights(20, 100, 0, 99, 0), 0);
        for (int heads = 0; heads <= 6; heads++) {
            HeadCounts y = Check.in("rooms 2;door 0 1" + ";head 0 1".repeat(heads) + ";sense 2");
            for (int bar = 0; bar <= heads + 1; bar++) {
                int[] due = crowdNights(heads, -1, bar);
                s.due(heads + " HEADS, bar " + bar, y.nights(20, 100, 0, bar, 0), due[0]);
                s.due(heads + " HEADS", y.nights(20, 100, 0, bar, 1), due[1]);
            }
        }
    }

    /** So many heads of two rooms, of which one may be dead: in how many minutes a bar of them is in room 1, and goings. */
    private static int[] crowdNights(int heads, int dead, int bar) {
        Draws draws = new Draws(0);
        int[] out = new int[2];
        for (int night = 0; night < 20; night++) {
            int[] at = new int[7];
            int there = 0;
            for (int minute = 0; minute < 100; minute++) {
                int head = draws.next(heads + 1);
                if (head < heads && head != dead) {
                    draws.next(1);
                    there += 1 - 2 * at[head];
                    at[head] = 1 - at[head];
                    out[1]++;
                }
                out[0] += there >= bar ? 1 : 0;
            }
        }
        return out;
    }

    /** Of one head from x = 0: 0 and 9988 let it go, 3498 too, 16045 and 19741 do not. */
    private void nightsAsInTwo() {
        HeadCounts dead = Check.in("rooms 2;door 0 1;head 0 1;head 0 1;head 0 1;sense 2;linger 0");
        dead.die(1);
        int[] due = crowdNights(3, 1, 1);
        s.due("the dead are drawn, and go not", dead.nights(20, 100, 0, 1, 1), due[1]);
        s.due("the others go", dead.nights(20, 100, 0, 1, 0), due[0]);
        dead.open(0, false);
        s.due("nowhere to go", dead.nights(20, 100, 0, 0, 1), 0);
        HeadCounts full = Check.in("rooms 3;door 0 1;door 0 2;head 0 2;head 1 1;most 1 2;sense 4;head 2 1");
        full.die(1);
        full.die(2);
        s.due("first minute: of HEADS 0 to 2 and nobody it is 0, and ROOM 1 is full, so to 2", full.nights(1, 1, 0, 3, 0), 1);
        HeadCounts lingering = Check.in("rooms 2;door 0 1;head 0 1;head 1 4;sense 2;linger 2");
        lingering.die(1);
        s.due("the dead count for one MINUTE of these", lingering.nights(1, 9, 0, 4, 0), 1);
        HeadCounts echo = Check.in("rooms 2;door 0 1;head 0 1;sense 1;linger 3;most 0 1");
        echo.go(0, 1, true);
        s.due("the ECHO keeps it out till MINUTE 4, and counts in 2 and 3", echo.nights(1, 2, 0, 1, 0), 2);
        s.due("nobody goes so long", echo.nights(1, 3, 0, 1, 1), 0);
    }

    private void images() {
        s.hold("IMAGES 0 to 3: all but the TAPE and the RULES, as it is (what can be UNDONE, too); gone back to, it is as it was (these "
            + "stay).");
        HeadCounts x = new HeadCounts();
        for (int k = 0; k < 4; k++) {
            Check.house(x, "rooms 2;door 0 1;head 0 " + (k + 1) + ";sense 1;linger " + k);
            x.seed(100 + k);
            for (int i = 0; i <= k; i++) {
                x.go(0, 1 - i % 2, true);
            }
            x.tell(k, 0, k);
            s.due("IMAGE " + k, x.image(k), k + 1);
        }
        s.due("IMAGE 4", x.image(4), -1);
        s.due("back to 4", x.back(4), -1);
        Check.rule(x, "go 1-at");
        Check.feed(x, "rooms 5");
        for (int k = 3; k >= 0; k--) {
            s.due("back to " + k, x.back(k), k + 1);
            s.due("its HOUSE", x.head(0, 1), k + 1);
            s.due("its linger", x.count(11), k);
            s.due("its ROOM", x.head(0, 0), (k + 1) % 2);
            s.due("ECHOES", x.count(7), k);
            s.due("TOLD", x.count(8), 1);
            s.due("x", x.count(12), 100 + k);
            s.due("RULES stay", x.count(4), 1);
            s.due("the TAPE stays", x.count(13), 7);
            for (int i = k; i >= 0; i--) {
                s.due("UNDONE", x.undo(), i);
            }
            s.due("none more", x.undo(), -1);
        }
        s.due("the TAPE is a HOUSE", x.house(), 0);
        s.due("of five ROOMS", x.count(0), 5);
        s.due("IMAGES stay", x.back(3), 4);
        imagesOfLongRuns();
    }

    /** Of more minutes than can be undone, and of what was told another way behind it. */
    private void imagesOfLongRuns() {
        HeadCounts x = Check.in("rooms 2;door 0 1;head 0 1;sense 1;sense 3;delay 0 5");
        for (int i = 0; i < 27; i++) {
            x.go(0, 1 - i % 2, false);
        }
        x.tell(1, 0, 1);
        s.due("goes back to ROOM 0", x.fits(), 1);
        s.due("IMAGE", x.image(1), 27);
        x.tell(-1, 0, 0);
        x.tell(0, 1, 0);
        for (int i = 0; i < 12; i++) {
            x.rest();
        }
        s.due("another TOLD", x.fits(), 0);
        s.due("back", x.back(1), 27);
        s.due("TOLD as it was", x.fits(), 1);
        s.due("in ROOM 0 behind it", x.who(0), 1);
        for (int ago = 0; ago < 10; ago++) {
            s.due("COUNT " + ago + " ago", x.was(0, ago), ago % 2);
        }
        for (int left = 19; left >= 0; left--) {
            s.due("UNDONE", x.undo(), left);
            s.due("MINUTE", x.count(5), 7 + left);
            s.due("its ROOM", x.head(0, 0), (7 + left) % 2);
        }
        s.due("none more", x.undo(), -1);
        s.due("FELT five ago", x.room(0, 1), 1);
    }
}
