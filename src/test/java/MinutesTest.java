/** Promises 6 to 15: what is looked at, and minutes by hand. */
public final class MinutesTest {
    private static final Check CHECK = new Check("MinutesTest");
    private static final String HOUSE = "rooms 3;door 0 1;door 1 2;head 0 2;head 2 1;head 2 2;delay 1 1;most 1 3;sense 1;sense 6;linger 2";

    public static void main(String[] args) {
        looking();
        going();
        delays();
        pastOfNine();
        echoes();
        sixEchoes();
        dying();
        doors();
        undoing();
        lastMinute();
        CHECK.close();
    }

    private static void row(String what, int[] got, int... due) {
        for (int i = 0; i < due.length; i++) {
            CHECK.due(what + " " + i, got[i], due[i]);
        }
    }

    private static int[] head(HeadCounts x, int head) {
        return new int[] {x.head(head, 0), x.head(head, 1), x.head(head, 2), x.head(head, 3), x.head(head, 4), x.head(head, 5)};
    }

    private static int[] room(HeadCounts x, int room) {
        return new int[] {x.room(room, 0), x.room(room, 1), x.room(room, 2), x.room(room, 3), x.room(room, 4), x.room(room, 5)};
    }

    private static void looking() {
        HeadCounts x = Check.in(HOUSE);
        row("head 0", head(x, 0), 0, 2, 0, -1, 0, 0);
        row("head 1", head(x, 1), 2, 1, 2, -1, 0, 0);
        row("room 0", room(x, 0), 2, 2, 1, 99, 0, 2);
        row("room 1", room(x, 1), 0, 0, 0, 3, 1, 5);
        row("room 2", room(x, 2), 3, 3, 6, 99, 0, 2);
        row("door 1", new int[] {x.door(1, 0), x.door(1, 1), x.door(1, 2)}, 1, 2, 1);
        row("senses", new int[] {x.sense(0, 0), x.sense(0, 1), x.sense(1, 0), x.sense(1, 1)}, 1, 2, 6, 3);
        int[] wrong = {x.head(3, 0), x.head(-1, 0), x.head(0, 6), x.head(0, -1), x.room(3, 0), x.room(-1, 0), x.room(0, 6),
            x.room(0, -1), x.door(2, 0), x.door(-1, 0), x.door(0, 3), x.door(0, -1), x.sense(2, 0), x.sense(-1, 0),
            x.sense(0, 2), x.sense(0, -1), x.was(3, 0), x.was(-1, 0), x.was(0, -1), x.was(0, 1), x.was(0, 10)};
        for (int i = 0; i < wrong.length; i++) {
            CHECK.due("without, " + i, wrong[i], -1);
        }
    }

    private static void going() {
        HeadCounts x = Check.in(HOUSE);
        CHECK.due("no door", x.go(0, 2, false), -1);
        CHECK.due("its own room", x.go(0, 0, false), -1);
        CHECK.due("no such head", x.go(3, 1, false), -1);
        CHECK.due("no such head", x.go(-1, 1, false), -1);
        CHECK.due("no such room", x.go(0, 3, false), -1);
        CHECK.due("no such room", x.go(0, -1, false), -1);
        CHECK.due("minute", x.count(5), 0);
        CHECK.due("go", x.go(2, 1, false), 1);
        row("head 2", head(x, 2), 1, 2, 2, 2, 1, 0);
        CHECK.due("held just so", x.go(1, 1, false), 2);
        CHECK.due("above what it holds", x.go(0, 1, false), -1);
        CHECK.due("rest", x.rest(), 3);
        CHECK.due("goings", x.count(10), 2);
        CHECK.due("go on", x.go(2, 0, false), 4);
        row("head 2", head(x, 2), 0, 2, 2, 1, 2, 0);
        row("room 0", room(x, 0), 4, 4, 5, 99, 0, 2);
    }

    private static void delays() {
        HeadCounts x = Check.in(HOUSE);
        x.go(0, 1, false);
        CHECK.due("COUNT at once", x.room(1, 0), 2);
        CHECK.due("FELT later", x.room(1, 1), 0);
        CHECK.due("a sense feels rooms as each is felt", x.sense(1, 1), 3);
        x.rest();
        CHECK.due("FELT now", x.room(1, 1), 2);
        CHECK.due("the sense now", x.sense(1, 1), 5);
        HeadCounts y = Check.in("rooms 2;door 0 1;head 0 3;delay 0 5;sense 1;linger 0");
        for (int i = 0; i < 5; i++) {
            CHECK.due("as at first, " + i, y.room(0, 1), 3);
            y.rest();
        }
        y.die(0);
        CHECK.due("COUNT by hand", y.room(0, 0), 0);
        y.rest();
        CHECK.due("one ago it had not died yet", y.was(0, 1), 3);
        CHECK.due("now it has", y.was(0, 0), 0);
        for (int i = 0; i < 5; i++) {
            CHECK.due("felt still, " + i, y.room(0, 1), 3);
            y.rest();
        }
        CHECK.due("felt no more", y.room(0, 1), 0);
    }

    private static void pastOfNine() {
        HeadCounts x = Check.in("rooms 2;door 0 1;head 0 1;head 0 2");
        x.go(0, 1, false);
        for (int i = 0; i < 8; i++) {
            x.rest();
        }
        CHECK.due("nine ago", x.was(1, 9), 0);
        CHECK.due("eight ago", x.was(1, 8), 1);
        x.go(1, 1, false);
        CHECK.due("nine ago", x.was(1, 9), 1);
        CHECK.due("now", x.was(1, 0), 3);
        CHECK.due("one ago", x.was(1, 1), 1);
        CHECK.due("ten ago", x.was(1, 10), -1);
    }

    private static void echoes() {
        HeadCounts x = Check.in(HOUSE);
        CHECK.due("backwards", x.go(0, 1, true), 1);
        CHECK.due("left behind", x.room(0, 0), 2);
        CHECK.due("and there", x.room(1, 0), 2);
        CHECK.due("nobody lives there", x.room(0, 2), 0);
        CHECK.due("one", x.count(7), 1);
        x.rest();
        CHECK.due("at MINUTE 2 of 3", x.room(0, 0), 2);
        x.rest();
        CHECK.due("at MINUTE 3", x.room(0, 0), 0);
        CHECK.due("none", x.count(7), 0);
        HeadCounts y = Check.in("rooms 2;door 0 1;head 0 2;head 1 2;most 0 3;linger 1");
        y.go(0, 1, true);
        CHECK.due("an echo fills a room", y.go(1, 0, false), -1);
        y.rest();
        CHECK.due("and is gone", y.go(1, 0, false), 3);
        HeadCounts z = Check.in("rooms 2;door 0 1;head 0 2;linger 0");
        z.go(0, 1, true);
        CHECK.due("linger 0", z.count(7), 0);
        CHECK.due("linger 0", z.room(0, 0), 0);
    }

    private static void sixEchoes() {
        HeadCounts x = Check.in("rooms 2;door 0 1;head 0 1;linger 7");
        for (int i = 0; i < 9; i++) {
            x.go(0, 1 - i % 2, true);
            CHECK.due("echoes behind " + (i + 1), x.count(7), Math.min(i + 1, 6));
        }
        CHECK.due("room 0", x.room(0, 0), 3);
        CHECK.due("room 1", x.room(1, 0), 4);
        HeadCounts y = Check.in("rooms 2;door 0 1;head 0 1;linger 6");
        for (int i = 0; i < 7; i++) {
            y.go(0, 1 - i % 2, true);
        }
        CHECK.due("the first is gone by now, so a seventh is left", y.count(7), 6);
        y.rest();
        CHECK.due("one less", y.count(7), 5);
    }

    private static void dying() {
        HeadCounts x = Check.in(HOUSE);
        CHECK.due("die", x.die(0), true);
        CHECK.due("again", x.die(0), false);
        CHECK.due("no such", x.die(3), false);
        CHECK.due("no such", x.die(-1), false);
        CHECK.due("no minute", x.count(5), 0);
        CHECK.due("counted still", x.head(0, 5), 1);
        CHECK.due("COUNT", x.room(0, 0), 2);
        CHECK.due("lives not", x.room(0, 2), 0);
        CHECK.due("living", x.count(6), 2);
        CHECK.due("goes no more", x.go(0, 1, false), -1);
        x.rest();
        CHECK.due("MINUTE 1 of 2", x.head(0, 5), 1);
        x.rest();
        CHECK.due("MINUTE 2", x.head(0, 5), 2);
        CHECK.due("COUNT", x.room(0, 0), 0);
        CHECK.due("its room", x.head(0, 0), 0);
        HeadCounts y = Check.in("rooms 2;head 0 4;linger 0");
        y.die(0);
        CHECK.due("no more at once", y.head(0, 5), 2);
        CHECK.due("no more at once", y.room(0, 0), 0);
    }

    private static void doors() {
        HeadCounts x = Check.in(HOUSE);
        CHECK.due("open is open", x.open(0, true), false);
        CHECK.due("no such", x.open(2, false), false);
        CHECK.due("no such", x.open(-1, false), false);
        CHECK.due("shut", x.open(0, false), true);
        CHECK.due("shut is shut", x.open(0, false), false);
        CHECK.due("door", x.door(0, 2), 0);
        CHECK.due("rooms", x.room(1, 5), 4);
        CHECK.due("go", x.go(0, 1, false), -1);
        CHECK.due("no minute", x.count(5), 0);
        CHECK.due("opened", x.open(0, true), true);
        CHECK.due("go", x.go(0, 1, false), 1);
    }

    private static void undoing() {
        HeadCounts x = Check.in(HOUSE);
        CHECK.due("nothing yet", x.undo(), -1);
        x.open(1, false);
        x.go(0, 1, true);
        x.die(1);
        x.open(0, false);
        x.open(1, true);
        x.tell(0, 0, 1);
        x.seed(5);
        x.rest();
        CHECK.due("can be", x.count(9), 2);
        CHECK.due("undo a rest", x.undo(), 1);
        CHECK.due("died ahead of it", x.head(1, 5), 1);
        CHECK.due("undo a going", x.undo(), 0);
        CHECK.due("no more", x.undo(), -1);
        row("head 0", head(x, 0), 0, 2, 0, -1, 0, 0);
        CHECK.due("lives", x.head(1, 5), 0);
        CHECK.due("door 0 as ahead", x.door(0, 2), 1);
        CHECK.due("door 1 as ahead", x.door(1, 2), 0);
        CHECK.due("echoes", x.count(7), 0);
        CHECK.due("goings", x.count(10), 0);
        CHECK.due("minute", x.count(5), 0);
        CHECK.due("what was told is no going", x.count(8), 1);
        CHECK.due("x is no going", x.count(12), 5);
        for (int i = 0; i < 25; i++) {
            x.rest();
        }
        CHECK.due("20 at most", x.count(9), 20);
        for (int i = 19; i >= 0; i--) {
            CHECK.due("undo", x.undo(), i);
        }
        CHECK.due("undo", x.undo(), -1);
        CHECK.due("minute", x.count(5), 5);
        HeadCounts y = Check.in("rooms 2;door 0 1;head 0 1;delay 1 5");
        y.go(0, 1, false);
        for (int i = 0; i < 22; i++) {
            y.rest();
        }
        for (int i = 0; i < 20; i++) {
            y.undo();
        }
        CHECK.due("what was felt, too", y.room(1, 1), 0);
        CHECK.due("two ago", y.was(1, 2), 1);
        CHECK.due("three ago", y.was(1, 3), 0);
    }

    private static void lastMinute() {
        HeadCounts x = Check.in("rooms 2;door 0 1;head 0 1");
        Check.rule(x, "go 99");
        for (int i = 0; i < 166; i++) {
            x.run(0, 60);
        }
        CHECK.due("minute", x.count(5), 9960);
        CHECK.due("run above", x.run(0, 40), -1);
        CHECK.due("run to the last", x.run(0, 39), 9999);
        CHECK.due("rest", x.rest(), -1);
        CHECK.due("go", x.go(0, 1, false), -1);
        CHECK.due("run", x.run(0, 1), -1);
        CHECK.due("undo", x.undo(), 19);
        CHECK.due("go", x.go(0, 1, false), 9999);
    }
}
