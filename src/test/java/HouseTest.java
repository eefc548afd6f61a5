/** Promise 4: house, and the language of houses with its faults. */
public final class HouseTest {
    private static final Check CHECK = new Check("HouseTest");

    public static void main(String[] args) {
        words();
        numbers();
        clauses();
        places();
        whatStays();
        CHECK.close();
    }

    private static void fault(String text, int place, int why) {
        HeadCounts x = new HeadCounts();
        CHECK.due("house '" + text + "'", Check.house(x, text), Check.fault(place, why));
        CHECK.due("rooms behind '" + text + "'", x.count(0), 0);
        CHECK.due("tape behind '" + text + "'", x.count(13), 0);
    }

    private static void fine(String text, int heads) {
        CHECK.due("house '" + text + "'", Check.house(new HeadCounts(), text), heads);
    }

    private static void words() {
        fault("", 0, 0);
        fault("   ", 3, 0);
        fault("rooms", 5, 0);
        fault("rooms  ", 7, 0);
        fault("roomss 2", 0, 0);
        fault("room 2", 0, 0);
        fault("Rooms 2", 0, 0);
        fault(" go 1", 1, 0);
        fault("rooms 2;", 8, 0);
        fault("rooms 2; ;", 9, 0);
        fault("rooms 2 2", 8, 0);
        fault("rooms 2x", 7, 0);
        fault("rooms 2 door 0 1", 8, 0);
        fault("rooms 2\0", 7, 0);
        fault("rooms x", 6, 0);
        fault("rooms -2", 6, 0);
        fault("rooms 2;door 0", 14, 0);
        fault("rooms 2;door 0;", 14, 0);
        fault("rooms 2;few 0 1", 8, 0);
        fine("rooms2", 0);
        fine("rooms 2" + " ".repeat(393), 0);
        fault(";".repeat(400), 0, 0);
        fault("rooms 2" + " ".repeat(392) + ";", 400, 0);
        fine("  rooms  2  ", 0);
        fine("rooms 2;head0 1;head 1  1 ; head1 4", 3);
    }

    private static void numbers() {
        fault("rooms 1", 6, 1);
        fault("rooms 7", 6, 1);
        fault("rooms 000002", 6, 1);
        fine("rooms 00002", 0);
        fine("rooms 6", 0);
        fault("rooms 2;door 2 0", 13, 1);
        fault("rooms 2;door 0 2", 15, 1);
        fault("rooms 2;door 0 0", 15, 1);
        fault("rooms 2;door 0 1;door 1 0", 24, 1);
        fault("rooms 2;door 0 1;door 0 1", 24, 1);
        fault("rooms 2;head 2 1", 13, 1);
        fault("rooms 2;head 0 0", 15, 1);
        fault("rooms 2;head 0 5", 15, 1);
        fault("rooms 2;delay 2 0", 14, 1);
        fault("rooms 2;delay 0 6", 16, 1);
        fault("rooms 2;most 2 1", 13, 1);
        fault("rooms 2;most 0 0", 15, 1);
        fault("rooms 2;most 0 100", 15, 1);
        fault("rooms 2;sense 0", 14, 1);
        fault("rooms 2;sense 4", 14, 1);
        fault("rooms 2;linger 10", 15, 1);
        fine("rooms 2;delay 0 5;most 0 99;most 1 1;sense 3;linger 0", 0);
        fault("rooms 2;head 9 9;rooms 2", 13, 1);
    }

    private static void clauses() {
        fault("head 0 1", 0, 4);
        fault(" linger 3;rooms 2", 1, 4);
        fault("rooms 2;rooms 2", 8, 4);
        fault("rooms 2;linger 1;linger 1", 17, 4);
        fault("rooms 2;" + "head 0 1;".repeat(6) + "head 9 9", 62, 4);
        fine("rooms 2;" + "head 0 1;".repeat(5) + "head 1 1", 6);
        fault("rooms 2;" + "sense 1;".repeat(6) + " sense", 57, 4);
        fine("rooms 2;" + "sense 1;".repeat(5) + "sense 1", 0);
        String ten = "rooms 6;door 0 1;door 0 2;door 0 3;door 0 4;door 0 5;door 1 2;door 1 3;door 1 4;door 1 5;door 2 3";
        fine(ten, 0);
        fault(ten + ";door 2 4", 98, 4);
        String forty = "rooms 2" + ";most0 1".repeat(39);
        fine(forty, 0);
        fault(forty + ";most0 1", forty.length() + 1, 4);
        fault(forty + ";rooms 2", forty.length() + 1, 4);
        fault(forty + ";", forty.length() + 1, 0);
        fault(forty + ";nothing", forty.length() + 1, 0);
    }

    private static void places() {
        HeadCounts x = Check.in("rooms 3;door 2 1;door 0 1;head 0 2;head 2 1;delay 1 4;delay 1 2;most 2 5;most 2 3;sense 5");
        CHECK.due("count(0)", x.count(0), 3);
        CHECK.due("count(1)", x.count(1), 2);
        CHECK.due("count(2)", x.count(2), 2);
        CHECK.due("count(3)", x.count(3), 1);
        CHECK.due("linger without", x.count(11), 3);
        CHECK.due("door(0, 0)", x.door(0, 0), 2);
        CHECK.due("door(0, 1)", x.door(0, 1), 1);
        CHECK.due("delay told twice", x.room(1, 4), 2);
        CHECK.due("delay without", x.room(0, 4), 0);
        CHECK.due("most told twice", x.room(2, 3), 3);
        CHECK.due("most without", x.room(0, 3), 99);
        CHECK.due("linger told", Check.in("rooms 2;linger 0").count(11), 0);
    }

    private static void whatStays() {
        HeadCounts x = Check.in("rooms 2;door 0 1;head 0 2;sense 1");
        Check.rule(x, "go 1");
        x.seed(77);
        x.go(0, 1, true);
        x.open(0, false);
        x.tell(1, 0, 2);
        CHECK.due("a fault", Check.house(x, "rooms 9"), Check.fault(6, 1));
        CHECK.due("MINUTE stays", x.count(5), 1);
        CHECK.due("TOLD stays", x.count(8), 1);
        CHECK.due("what can be UNDONE stays", x.count(9), 1);
        CHECK.due("the ECHO stays", x.count(7), 1);
        CHECK.due("the HEAD stays", x.head(0, 0), 1);
        CHECK.due("another house", Check.house(x, "rooms 4;head 3 1;head 3 4"), 2);
        int[] due = {4, 0, 2, 0, 1, 0, 2, 0, 0, 0, 0, 3, 77, 0};
        for (int what = 0; what < due.length; what++) {
            CHECK.due("count(" + what + ") in another house", x.count(what), due[what]);
        }
        CHECK.due("undo() in another house", x.undo(), -1);
        CHECK.due("count of room 3", x.room(3, 0), 5);
        CHECK.due("no head went", x.head(0, 3), -1);
    }
}
