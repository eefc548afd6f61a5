/** Promises 23, 24, 28 and 29: known, watch, messages, swaps. */
public final class WatchTest {
    private static final Check CHECK = new Check("WatchTest");

    public static void main(String[] args) {
        knowing();
        heldAndShut();
        messages();
        swaps();
        CHECK.close();
    }

    private static void knowing() {
        HeadCounts x = Check.in("rooms 3;door 0 1;door 1 2;head 1 2;head 1 2;head 0 1");
        CHECK.due("no rooms", x.known(0), 0);
        CHECK.due("room 0: 1 to 2 changes none", x.known(1), 0);
        CHECK.due("room 1: both ways alike", x.known(2), 0);
        CHECK.due("room 2: 0 to 1 changes none", x.known(4), 0);
        CHECK.due("rooms 0 and 2", x.known(5), 1);
        CHECK.due("rooms 0 and 1", x.known(3), 1);
        CHECK.due("all rooms", x.known(7), 1);
        CHECK.due("no such set", x.known(8), -1);
        CHECK.due("no such set", x.known(-1), -1);
        CHECK.due("the least of the fewest", x.watch(), 3);
        HeadCounts y = Check.in("rooms 3;door 0 1;door 1 2;head 1 2;head 0 1;head 2 4");
        CHECK.due("room 1: 1 to 0 and 1 to 2 by the same head", y.known(2), 0);
        HeadCounts z = Check.in("rooms 3;door 0 1;door 1 2;head 0 1;head 0 1;head 2 4");
        CHECK.due("room 1: by unlike halves, the same ways by two heads", z.known(2), 1);
        CHECK.due("watch", z.watch(), 2);
        CHECK.due("a head alone", Check.in("rooms 2;door 0 1;head 1 1").watch(), 1);
    }

    private static void heldAndShut() {
        HeadCounts x = Check.in("rooms 3;door 0 1;door 1 2;head 1 2;head 0 4;most 0 5;linger 9");
        CHECK.due("who can't go is not asked", x.known(4), 0);
        CHECK.due("the two that could be", x.known(1), 0);
        CHECK.due("watch", x.watch(), 2);
        x.open(0, false);
        CHECK.due("by the open door alone", x.watch(), 2);
        x.open(1, false);
        CHECK.due("no goings: no rooms", x.watch(), 0);
        CHECK.due("no goings: known by none", x.known(0), 1);
        x.open(0, true);
        x.go(1, 1, true);
        CHECK.due("an echo fills no room here", x.known(0), 0);
        CHECK.due("two heads by the same way are not asked apart", x.known(1), 1);
        CHECK.due("watch", x.watch(), 1);
    }

    private static void messages() {
        HeadCounts x = Check.in("rooms 2;door 0 1;head 0 1;sense 1");
        for (int n = 0; n <= 12; n++) {
            CHECK.due("messages in " + n, x.messages(0, n), 1 << n);
        }
        CHECK.due("13 minutes", x.messages(0, 13), -1);
        CHECK.due("-1 minutes", x.messages(0, -1), -1);
        CHECK.due("no such", x.messages(1, 1), -1);
        CHECK.due("no such", x.messages(-1, 1), -1);
        CHECK.due("no sense", Check.in("rooms 2;door 0 1;head 0 1").messages(0, 12), 1);
        CHECK.due("rooms felt alike", Check.in("rooms 2;door 0 1;head 0 1;sense 3").messages(0, 12), 1);
        HeadCounts line = Check.in("rooms 3;door 0 1;door 1 2;head 0 1;sense 4");
        CHECK.due("first felt behind two", line.messages(0, 1), 1);
        CHECK.due("first felt behind two", line.messages(0, 2), 2);
        CHECK.due("01, 11, 00", line.messages(0, 3), 4);
        HeadCounts held = Check.in("rooms 3;door 0 1;door 1 2;head 0 2;head 2 2;most 2 3;most 0 1;sense 1;sense 2;sense 4");
        CHECK.due("a room that does not hold it, and one to which it can't come back", held.messages(0, 3), 4);
        held.die(1);
        CHECK.due("without the other", held.messages(0, 3), 1 + 1 + 2 + 4);
        CHECK.due("it does not live", held.messages(1, 3), -1);
        HeadCounts star = Check.in("rooms 6;door 0 1;door 0 2;door 0 3;door 0 4;door 0 5;door 1 2;door 2 3;door 3 4;door 4 5;door 5 1;"
            + "head 0 1;sense 1;sense 2;sense 4;sense 8;sense 16;sense 32");
        CHECK.due("all rooms felt: as many as ways", star.messages(0, 12), ways(12));
    }

    private static long ways(int n) {
        long hub = 1;
        long rim = 0;
        for (int i = 0; i < n; i++) {
            long before = hub;
            hub = hub + rim;
            rim = 5 * before + 3 * rim;
        }
        return hub + rim;
    }

    private static void swaps() {
        HeadCounts x = Check.in("rooms 3;door 0 1;door 1 2;head 0 1;head 1 1;head 1 2;head 2 2;head 0 4;most 0 1;sense 1");
        CHECK.due("of all", x.swaps(1), 6);
        CHECK.due("nobody feels: 0 with 1, and both in 1 with 3", x.swaps(0), 3);
        CHECK.due("what 2", x.swaps(2), -1);
        CHECK.due("what -1", x.swaps(-1), -1);
        x.die(1);
        CHECK.due("of all that live", x.swaps(1), 3);
        CHECK.due("nobody feels", x.swaps(0), 1);
        x.open(1, false);
        CHECK.due("by open doors", x.swaps(1), 2);
        CHECK.due("all are felt", x.swaps(0), 0);
        CHECK.due("no sense", Check.in("rooms 2;door 0 1;head 0 1;head 1 4").swaps(0), 1);
    }
}
