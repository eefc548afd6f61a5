/** Promises 25, 26 and 27: secret, theft, gather. */
public final class SecretTest {
    private static final Check CHECK = new Check("SecretTest");

    public static void main(String[] args) {
        secrets();
        firstOfSeveral();
        thefts();
        thousand();
        gathering();
        CHECK.close();
    }

    private static void row(HeadCounts x, int head, int room, int... due) {
        for (int what = 0; what < due.length; what++) {
            CHECK.due("secret(" + head + ", " + room + ", " + what + ")", x.secret(head, room, what), due[what]);
        }
    }

    private static void secrets() {
        HeadCounts x = Check.in("rooms 3;door 0 1;door 1 2;head 0 2;head 1 2;head 2 1;head 2 1;sense 1;sense 2;sense 4");
        row(x, 0, 1, 2, 1, 0, 2, 2, -1, -1);
        row(x, 1, 2, 3, 0, 2, 1, 1, -1, -1);
        row(x, 2, 1, 3, 0, 2, 1, 1, -1, -1);
        CHECK.due("no door", x.secret(0, 2, 0), -2);
        CHECK.due("no door", x.secret(0, 2, 6), -2);
        CHECK.due("its own room", x.secret(0, 0, 0), -1);
        CHECK.due("no such room", x.secret(0, 3, 0), -1);
        CHECK.due("no such room", x.secret(0, -1, 0), -1);
        CHECK.due("no such head", x.secret(4, 0, 0), -1);
        CHECK.due("no such head", x.secret(-1, 0, 0), -1);
        CHECK.due("what 7", x.secret(0, 1, 7), -1);
        CHECK.due("what -1", x.secret(0, 1, -1), -1);
        x.die(3);
        CHECK.due("one is missing", x.secret(1, 2, 0), -2);
        row(x, 0, 1, 2, 1, 0, 2, -1, -1, -1);
        CHECK.due("it does not live", x.secret(3, 1, 0), -1);
        x.open(0, false);
        CHECK.due("shut", x.secret(0, 1, 0), -2);
        HeadCounts full = Check.in("rooms 2;door 0 1;head 0 2;head 1 2;head 1 1;most 1 3");
        row(full, 0, 1, 2, 1, 0, 1, -1, -1, -1, -1);
        HeadCounts over = Check.in("rooms 3;door 0 1;head 0 2;head 2 4;most 2 3");
        CHECK.due("a room that holds too many behind it", over.secret(0, 1, 0), -2);
        HeadCounts swap = Check.in("rooms 2;door 0 1;head 0 3;head 1 3;most 0 3;most 1 3");
        row(swap, 0, 1, 2, 1, 0);
    }

    private static void firstOfSeveral() {
        HeadCounts x = Check.in("rooms 4;door 0 1;door 0 2;door 0 3;head 1 1;head 2 1;head 0 1;head 0 1;sense 1");
        row(x, 2, 3, 2, 0, 2, 3, 0, -1, -1);
        row(x, 3, 1, 2, 0, 2, 0, 1, -1, -1);
        row(x, 1, 0, 2, 1, 0, 0, 1, -1, -1);
        HeadCounts six = Check.in("rooms 2;door 0 1;head 0 3;head 1 1;head 1 1;head 1 1;head 1 2;head 1 1;sense 1");
        row(six, 0, 1, 3, 1, 0, 1, 1, 0, 1);
    }

    private static void thefts() {
        HeadCounts x = Check.in("rooms 3;door 0 1;door 1 2;head 0 2;head 1 2;sense 1;sense 2;sense 4");
        CHECK.due("by changing places", x.theft(0, 1, 0), 1);
        CHECK.due("both go", x.theft(0, 1, 1), 2);
        CHECK.due("no further", x.theft(0, 2, 0), -2);
        CHECK.due("no further", x.theft(0, 2, 1), -2);
        CHECK.due("there already", x.theft(0, 0, 0), 0);
        CHECK.due("there already", x.theft(0, 0, 1), 0);
        CHECK.due("no such", x.theft(2, 0, 0), -1);
        CHECK.due("no such", x.theft(-1, 0, 0), -1);
        CHECK.due("no such", x.theft(0, 3, 0), -1);
        CHECK.due("no such", x.theft(0, -1, 0), -1);
        CHECK.due("what 2", x.theft(0, 1, 2), -1);
        CHECK.due("what -1", x.theft(0, 1, -1), -1);
        x.die(0);
        CHECK.due("it does not live", x.theft(0, 1, 0), -1);
        HeadCounts line = Check.in("rooms 4;door 0 1;door 1 2;door 2 3;head 0 2;head 1 2;head 2 2;sense 1;sense 2;sense 4");
        CHECK.due("room after room", line.theft(0, 3, 0), -2);
        CHECK.due("room after room", line.theft(0, 2, 0), 2);
        CHECK.due("two each", line.theft(0, 2, 1), 4);
        HeadCounts free = Check.in("rooms 4;door 0 1;door 1 2;door 2 3;head 0 2;head 3 2;most 1 3;most 2 3");
        CHECK.due("nothing feels", free.theft(0, 3, 0), 3);
        // From the row 0 3 come 0 2, 1 2 and 1 3; from 1 2, ahead of 1 3, come 2 1 and 2 3; from 2 1 comes 3 0.
        CHECK.due("not the fewest goings, but those of the way that came first", free.theft(0, 3, 1), 6);
    }

    /** Houses whose situations, without one head behind no door, were counted by another program. */
    private static void thousand() {
        String doors = "rooms 6;door 0 1;door 1 2;door 2 3;door 3 4;door 0 4;door 0 2;door 1 3;head 5 1;";
        HeadCounts x999 = Check.in(doors + "head 1 4;head 0 2;head 1 4;head 1 1;head 2 4;most 0 2;most 1 11;most 2 7;most 3 6;most 4 12");
        HeadCounts x1000 = Check.in(doors + "head 0 4;head 1 4;head 0 3;head 1 2;head 2 3;most 0 7;most 1 8;most 2 9;most 3 6;most 4 3");
        HeadCounts x1001 = Check.in(doors + "head 0 1;head 0 1;head 0 2;head 1 3;head 2 4;most 0 6;most 1 5;most 2 5;most 3 10;most 4 1");
        CHECK.due("999", x999.theft(0, 0, 0), -2);
        CHECK.due("1000", x1000.theft(0, 0, 0), -2);
        CHECK.due("1000", x1000.theft(0, 0, 1), -2);
        CHECK.due("1001", x1001.theft(0, 0, 0), -3);
        CHECK.due("1001", x1001.theft(0, 0, 1), -3);
        CHECK.due("1001, but it came ahead", x1001.theft(1, 2, 0), 1);
    }

    private static void gathering() {
        HeadCounts x = Check.in("rooms 3;door 0 1;door 1 2;head 0 2;head 1 1;head 2 1;head 2 3;most 1 3");
        CHECK.due("so already", x.gather(1, 1, 0), 0);
        CHECK.due("none needs go", x.gather(1, 1, 1), -2);
        CHECK.due("none needs go", x.gather(1, 1, 2), -2);
        CHECK.due("three in the middle", x.gather(1, 3, 0), 1);
        CHECK.due("head 0", x.gather(1, 3, 1), 0);
        CHECK.due("to room 1", x.gather(1, 3, 2), 1);
        CHECK.due("two in the middle", x.gather(1, 2, 1), 2);
        CHECK.due("none in the middle", x.gather(1, 0, 1), 1);
        CHECK.due("none in the middle, to the least room", x.gather(1, 0, 2), 0);
        CHECK.due("above what it holds", x.gather(1, 4, 0), -2);
        CHECK.due("above what it holds", x.gather(1, 4, 1), -2);
        CHECK.due("all", x.gather(0, 7, 0), 5);
        CHECK.due("more than all", x.gather(0, 8, 0), -2);
        CHECK.due("99", x.gather(0, 99, 0), -2);
        CHECK.due("100", x.gather(0, 100, 0), -1);
        CHECK.due("-1", x.gather(0, -1, 0), -1);
        CHECK.due("no such room", x.gather(3, 1, 0), -1);
        CHECK.due("no such room", x.gather(-1, 1, 0), -1);
        CHECK.due("what 3", x.gather(0, 1, 3), -1);
        CHECK.due("what -1", x.gather(0, 1, -1), -1);
        x.die(3);
        CHECK.due("the dead do not count", x.gather(2, 1, 0), 0);
        CHECK.due("nor go", x.gather(0, 7, 0), -2);
        x.open(1, false);
        CHECK.due("shut", x.gather(2, 4, 0), -2);
    }
}
