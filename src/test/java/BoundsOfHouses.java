/** The language of houses: the last that is taken and the first that is not. */
final class BoundsOfHouses extends Bounds {
    private static final String TEN_DOORS =
        "rooms 6;door 0 1;door 0 2;door 0 3;door 0 4;door 0 5;door 1 2;door 1 3;door 1 4;door 1 5;door 3 2";

    BoundsOfHouses(Sentences s) {
        super(s);
    }

    @Override
    void hold() {
        bytes();
        clauses();
        rooms();
        doors();
        heads();
        delays();
        mosts();
        senses();
        lingers();
        order();
        atFirst();
    }

    private void bytes() {
        s.hold("A HOUSE is a text of at most 400 bytes");
        house(filled("rooms 2;head 1 4", 400), 1);
        house(filled("rooms 2;head 1 ", 399) + "4", 1);
        houseFault(filled("rooms 2", 399) + "2", 399, 0);
        houseFault(filled("rooms 2;", 400), 400, 0);
        HeadCounts x = new HeadCounts();
        Check.feed(x, filled("rooms 2", 400));
        s.due("a byte more does not come", x.feed(0, 0, 0, 0, 0), -1);
        s.due("what came is a HOUSE", x.house(), 0);
    }

    private void clauses() {
        s.hold(": CLAUSE { ; CLAUSE }, 40 at most: ");
        String forty = "rooms 2" + ";most0 1".repeat(38) + ";most 0 7";
        house("rooms 2", 0);
        house(forty, 0);
        s.due("the fortieth is told", Check.in(forty).room(0, 3), 7);
        houseFault(forty + ";most 0 1", 321, 4);
        houseFault(forty + ";", 321, 0);
        houseFault("", 0, 0);
        houseFault(";rooms 2", 0, 0);
        houseFault("rooms 2;", 8, 0);
        houseFault("rooms 2;;linger 1", 8, 0);
        houseFault("rooms 2 linger 1", 8, 0);
    }

    private void rooms() {
        s.hold("rooms NUMBER (2 to 6; once, the first CLAUSE)");
        houseFault("rooms 0", 6, 1);
        houseFault("rooms 1", 6, 1);
        for (int n = 2; n <= 6; n++) {
            HeadCounts x = Check.in("rooms " + n);
            s.due("so many", x.count(0), n);
            s.due("the last ROOM", x.room(n - 1, 0), 0);
            s.due("the first that is not", x.room(n, 0), -1);
        }
        houseFault("rooms 7", 6, 1);
        houseFault("rooms 3;rooms 3", 8, 4);
        houseFault("rooms 3;most 0 1;rooms 3", 17, 4);
        houseFault("most 0 1;rooms 3", 0, 4);
    }

    private void doors() {
        s.hold(" | door NUMBER NUMBER (between two ROOMS that have none yet)");
        for (int n = 2; n <= 6; n++) {
            int last = n - 1;
            house("rooms " + n + ";door 0 " + last, 0);
            house("rooms " + n + ";door " + last + " 0", 0);
            houseFault("rooms " + n + ";door 0 " + n, 15, 1);
            houseFault("rooms " + n + ";door " + n + " 0", 13, 1);
            houseFault("rooms " + n + ";door " + last + " " + last, 15, 1);
        }
        house("rooms 3;door 0 1;door 1 2;door 2 0", 0);
        houseFault("rooms 3;door 0 1;door 0 1", 24, 1);
        houseFault("rooms 3;door 0 1;door 1 0", 24, 1);
        houseFault("rooms 3;door 0 1;door 1 2;door 2 1", 33, 1);
        houseFault("rooms 2;door 0", 14, 0);
        houseFault("rooms 2;door 0 1 1", 17, 0);
        houseFault(TEN_DOORS + ";door 4 2", 98, 4);
    }

    private void heads() {
        s.hold(" | head NUMBER NUMBER (a ROOM, HALVES 1 to 4)");
        for (int n = 2; n <= 6; n++) {
            house("rooms " + n + ";head 0 1", 1);
            house("rooms " + n + ";head " + (n - 1) + " 1", 1);
            houseFault("rooms " + n + ";head " + n + " 1", 13, 1);
        }
        houseFault("rooms 2;head 0 0", 15, 1);
        for (int halves = 1; halves <= 4; halves++) {
            HeadCounts x = Check.in("rooms 2;head 1 " + halves);
            s.due("its HALVES", x.head(0, 1), halves);
            s.due("they count", x.room(1, 0), halves);
        }
        houseFault("rooms 2;head 0 5", 15, 1);
        houseFault("rooms 2;head 0", 14, 0);
        house("rooms 2", 0);
        houseFault("rooms 2;head 0 1" + ";head 1 1".repeat(6), 62, 4);
    }

    private void delays() {
        s.hold(" | delay NUMBER NUMBER (a ROOM, 0 to 5; of one the last told, 0 without)");
        for (int n = 2; n <= 6; n++) {
            house("rooms " + n + ";delay " + (n - 1) + " 1", 0);
            houseFault("rooms " + n + ";delay " + n + " 1", 14, 1);
        }
        for (int delay = 0; delay <= 5; delay++) {
            s.due("as told", Check.in("rooms 2;delay 1 " + delay).room(1, 4), delay);
        }
        houseFault("rooms 2;delay 0 6", 16, 1);
        HeadCounts x = Check.in("rooms 3;delay 1 5;delay 2 3;delay 1 2");
        s.due("of one the last told", x.room(1, 4), 2);
        s.due("of another", x.room(2, 4), 3);
        s.due("0 without", x.room(0, 4), 0);
        s.due("back to 0", Check.in("rooms 2;delay 0 5;delay 0 0").room(0, 4), 0);
    }

    private void mosts() {
        s.hold(" | most NUMBER NUMBER (a ROOM, HALVES 1 to 99; of one the last told, 99 without)");
        for (int n = 2; n <= 6; n++) {
            house("rooms " + n + ";most " + (n - 1) + " 1", 0);
            houseFault("rooms " + n + ";most " + n + " 1", 13, 1);
        }
        houseFault("rooms 2;most 0 0", 15, 1);
        s.due("1", Check.in("rooms 2;most 1 1").room(1, 3), 1);
        s.due("99", Check.in("rooms 2;most 1 1;most 1 99").room(1, 3), 99);
        houseFault("rooms 2;most 0 100", 15, 1);
        HeadCounts x = Check.in("rooms 3;most 1 5;most 2 3;most 1 2");
        s.due("of one the last told", x.room(1, 3), 2);
        s.due("of another", x.room(2, 3), 3);
        s.due("99 without", x.room(0, 3), 99);
    }

    private void senses() {
        s.hold(" | sense NUMBER (a set of ROOMS, as bits, not empty)");
        for (int n = 2; n <= 6; n++) {
            int all = (1 << n) - 1;
            houseFault("rooms " + n + ";sense 0", 14, 1);
            s.due("one ROOM", Check.in("rooms " + n + ";sense 1").sense(0, 0), 1);
            s.due("all ROOMS", Check.in("rooms " + n + ";sense " + all).sense(0, 0), all);
            houseFault("rooms " + n + ";sense " + (all + 1), 14, 1);
        }
        houseFault("rooms 2;sense", 13, 0);
        houseFault("rooms 2;sense 1" + ";sense 2".repeat(6), 56, 4);
    }

    private void lingers() {
        s.hold(" | linger NUMBER (0 to 9; once at most, 3 without)");
        for (int linger = 0; linger <= 9; linger++) {
            s.due("as told", Check.in("rooms 2;linger " + linger).count(11), linger);
        }
        houseFault("rooms 2;linger 10", 15, 1);
        houseFault("rooms 2;linger 3;linger 3", 17, 4);
        houseFault("rooms 2;linger 0;most 0 1;linger 0", 26, 4);
        s.due("3 without", Check.in("rooms 2").count(11), 3);
        HeadCounts x = Check.in("rooms 2;linger 7");
        Check.house(x, "rooms 2");
        s.due("3 without, behind a HOUSE with", x.count(11), 3);
    }

    private void order() {
        s.hold(". ROOMS 0 and on, DOORS 0 to 9, HEADS 0 to 5, SENSES 0 to 5, in the order told.");
        HeadCounts x = Check.in(TEN_DOORS);
        s.due("ten DOORS", x.count(1), 10);
        s.due("DOOR 0", x.door(0, 1), 1);
        s.due("DOOR 9", x.door(9, 0), 3);
        s.due("DOOR 9", x.door(9, 1), 2);
        s.due("DOOR 10", x.door(10, 0), -1);
        HeadCounts y = Check.in("rooms 6;head 5 1;sense 32;head 4 2;sense 16;head 3 3;head 2 4;sense 8;head 1 1;head 0 2;"
            + "sense 4;sense 2;sense 1");
        int[] halves = {1, 2, 3, 4, 1, 2};
        for (int i = 0; i < 6; i++) {
            s.due("ROOM " + i, y.room(i, 0), halves[5 - i]);
            s.due("HEAD " + i, y.head(i, 1), halves[i]);
            s.due("its ROOM", y.head(i, 0), 5 - i);
            s.due("SENSE " + i, y.sense(i, 0), 32 >> i);
        }
        s.due("HEAD 6", y.head(6, 0), -1);
        s.due("SENSE 6", y.sense(6, 0), -1);
        s.due("ROOM 6", y.room(6, 0), -1);
    }

    private void atFirst() {
        s.hold("All DOORS are OPEN at first; it is MINUTE 0.");
        HeadCounts x = Check.in("rooms 2;door 0 1;head 0 1");
        x.open(0, false);
        x.rest();
        Check.house(x, TEN_DOORS);
        for (int door = 0; door < 10; door++) {
            s.due("OPEN", x.door(door, 2), 1);
        }
        s.due("to all from ROOM 0", x.room(0, 5), 62);
        s.due("MINUTE", x.count(5), 0);
    }
}
