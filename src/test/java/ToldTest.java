/** Promises 18 to 22: tell, fits, who, first, next. */
public final class ToldTest {
    private static final Check CHECK = new Check("ToldTest");

    public static void main(String[] args) {
        telling();
        line();
        contradictions();
        parting();
        livingAlone();
        many();
        CHECK.close();
    }

    private static void telling() {
        HeadCounts x = Check.in("rooms 2;door 0 1;head 0 1;sense 1");
        CHECK.due("none told", x.fits(), 1);
        CHECK.due("none told", x.who(0), 1);
        CHECK.due("none told", x.first(), -2);
        CHECK.due("minutes 9", x.tell(9, 0, 0), -2);
        CHECK.due("minutes -2", x.tell(-2, 0, 0), -2);
        CHECK.due("no sense", x.tell(0, 1, 0), -2);
        CHECK.due("no sense", x.tell(0, -1, 0), -2);
        CHECK.due("halves 100", x.tell(0, 0, 100), -2);
        CHECK.due("halves -1", x.tell(0, 0, -1), -2);
        for (int i = 1; i <= 12; i++) {
            CHECK.due("tell", x.tell(8, 0, 99), i);
        }
        CHECK.due("a thirteenth", x.tell(8, 0, 0), -2);
        CHECK.due("count", x.count(8), 12);
        CHECK.due("nothing told", x.tell(-1, 99, -99), 0);
        CHECK.due("count", x.count(8), 0);
        CHECK.due("tell", x.tell(0, 0, 1), 1);
    }

    /** One head in a row of three rooms, felt in the last: by hand. */
    private static void line() {
        HeadCounts x = Check.in("rooms 3;door 0 1;door 1 2;head 0 2;sense 4;sense 2");
        x.tell(3, 0, 2);
        CHECK.due("three minutes to go two rooms", x.fits(), 3);
        CHECK.due("who", x.who(0), 4);
        x.tell(1, 1, 2);
        CHECK.due("in the middle behind the first", x.fits(), 2);
        x.tell(-1, 0, 0);
        x.tell(2, 0, 0);
        CHECK.due("all but in the last", x.fits(), 4);
        CHECK.due("who", x.who(0), 3);
        CHECK.due("who, no such", x.who(1), -1);
        CHECK.due("who, no such", x.who(-1), -1);
        x.open(1, false);
        CHECK.due("a door shut", x.fits(), 4);
        x.tell(1, 1, 0);
        CHECK.due("and it stays at first", x.fits(), 2);
        x.go(0, 1, false);
        CHECK.due("from another room", x.fits(), 2);
        CHECK.due("who now", x.who(0), 3);
        x.undo();
        CHECK.due("undone", x.fits(), 2);
    }

    private static void contradictions() {
        HeadCounts x = Check.in("rooms 3;door 0 1;door 1 2;head 0 2;sense 4;sense 1");
        x.tell(4, 0, 2);
        x.tell(1, 1, 2);
        x.tell(3, 0, 2);
        x.tell(2, 1, 2);
        x.tell(0, 1, 0);
        CHECK.due("the fourth can't be", x.first(), 3);
        CHECK.due("none fits", x.fits(), 0);
        CHECK.due("nobody is anywhere", x.who(0), 0);
        CHECK.due("next room", x.next(0), -2);
        CHECK.due("next situations", x.next(1), 0);
        CHECK.due("next stay", x.next(2), -2);
        x.tell(-1, 0, 0);
        x.tell(0, 1, 0);
        CHECK.due("the first can't be", x.first(), 0);
        x.tell(-1, 0, 0);
        x.tell(8, 0, 3);
        CHECK.due("halves that nobody has", x.first(), 0);
    }

    private static void parting() {
        HeadCounts x = Check.in("rooms 3;door 0 1;door 1 2;head 0 1;head 0 2;sense 7");
        CHECK.due("now", x.next(1), 1);
        CHECK.due("now", x.next(0), 0);
        CHECK.due("now", x.next(2), 1);
        x.tell(1, 0, 3);
        CHECK.due("fits", x.fits(), 3);
        CHECK.due("three", x.next(1), 3);
        CHECK.due("room 0 tells them all", x.next(0), 0);
        CHECK.due("one stays", x.next(2), 1);
        CHECK.due("what 3", x.next(3), -1);
        CHECK.due("what -1", x.next(-1), -1);
        HeadCounts y = Check.in("rooms 4;door 0 1;door 0 2;head 0 1;head 3 1;sense 15");
        y.tell(1, 0, 2);
        CHECK.due("of several the least room", y.next(0), 0);
        CHECK.due("two stay", y.next(2), 2);
        HeadCounts z = Check.in("rooms 4;door 3 1;door 3 2;head 3 1;head 3 2;head 0 2;sense 15");
        z.tell(1, 0, 5);
        CHECK.due("room 3 parts by halves", z.next(0), 3);
        CHECK.due("five", z.next(1), 5);
        CHECK.due("two stay", z.next(2), 2);
    }

    private static void livingAlone() {
        HeadCounts x = Check.in("rooms 2;door 0 1;head 0 1;head 0 2;most 1 2;sense 1;sense 2;linger 9");
        x.go(1, 1, true);
        x.tell(0, 0, 1);
        CHECK.due("echoes count not", x.fits(), 1);
        x.die(1);
        x.tell(1, 1, 1);
        CHECK.due("nor do the dead, nor fill they rooms", x.fits(), 1);
        CHECK.due("who", x.who(0), 2);
        CHECK.due("who of the dead", x.who(1), -1);
        x.die(0);
        CHECK.due("nobody", x.fits(), 0);
        x.tell(-1, 0, 0);
        x.tell(8, 0, 0);
        CHECK.due("nobody goes", x.fits(), 1);
        CHECK.due("one situation", x.next(1), 1);
        HeadCounts y = Check.in("rooms 2;door 0 1;head 0 2;head 0 2;most 1 2;sense 3;delay 1 5");
        y.tell(2, 0, 4);
        CHECK.due("rooms hold as told: 3 and then 1, 2, 2", y.fits(), 7);
    }

    private static void many() {
        HeadCounts x = Check.in("rooms 6;door 0 1;door 0 2;door 0 3;door 0 4;door 0 5;door 1 2;door 2 3;door 3 4;door 4 5;door 5 1;"
            + "head 0 1;head 0 1;head 0 1;head 0 1;head 0 1;head 0 1;sense 63");
        x.tell(1, 0, 6);
        CHECK.due("behind one minute", x.fits(), 31);
        x.tell(8, 0, 6);
        CHECK.due("behind eight, by a count of the ways of the doors alone", x.fits(), waysOfSix(8));
        CHECK.due("all rooms", x.who(5), 63);
    }

    /** Six heads that go by themselves: how many rows of minutes, by how many of these each gets. */
    private static long waysOfSix(int minutes) {
        long[] walks = new long[minutes + 1];
        long[] at = {1, 0, 0, 0, 0, 0};
        for (int n = 0; n <= minutes; n++) {
            for (long v : at) {
                walks[n] += v;
            }
            long[] after = new long[6];
            for (int r = 1; r < 6; r++) {
                after[0] += at[r];
                after[r] += at[0] + at[r == 1 ? 5 : r - 1] + at[r == 5 ? 1 : r + 1];
            }
            at = after;
        }
        long[] all = new long[minutes + 1];
        java.util.Arrays.fill(all, 1);
        for (int head = 0; head < 6; head++) {
            long[] with = new long[minutes + 1];
            for (int n = 0; n <= minutes; n++) {
                for (int k = 0; k <= n; k++) {
                    with[n] += choose(n, k) * walks[k] * all[n - k];
                }
            }
            all = with;
        }
        return all[minutes];
    }

    private static long choose(int n, int k) {
        return k == 0 || k == n ? 1 : choose(n - 1, k - 1) + choose(n - 1, k);
    }
}
