/** The promises: what each call takes and what it refuses, and that a call that is refused changes nothing. */
final class BoundsOfCalls extends Bounds {
    private static final String HOUSE =
        "rooms 3;door 0 1;door 1 2;head 0 2;head 2 1;head 2 2;delay 1 1;most 1 4;sense 1;sense 6;linger 4";
    private static final int ROOMS = 3;
    private static final int DOORS = 2;
    private static final int HEADS = 3;
    private static final int SENSES = 2;
    private static final int RULES = 2;
    private static final int NOT_LIVING = 2;

    BoundsOfCalls(Sentences s) {
        super(s);
    }

    /** An object in which there is some of all that can be: of six minutes one is undone again. */
    static void fillAll(HeadCounts x) {
        Check.house(x, HOUSE);
        Check.rule(x, "go few");
        Check.rule(x, "go 1 if at = 0 and minute < 9;go 0");
        x.seed(77);
        x.go(0, 1, true);
        x.image(0);
        x.go(1, 1, false);
        x.rest();
        x.open(1, false);
        x.die(NOT_LIVING);
        x.tell(2, 0, 2);
        x.tell(1, 1, 3);
        x.rest();
        x.image(2);
        x.go(0, 0, true);
        x.rest();
        x.undo();
        x.open(1, true);
        Check.feed(x, "rooms 2;head 1 4");
    }

    private static void fillLast(HeadCounts x) {
        fillAll(x);
        for (int i = 0; i < 166; i++) {
            x.run(0, 60);
        }
        x.run(0, 9999 - x.count(5));
    }

    private static void nothing(HeadCounts x) {
        x.end(0);
    }

    @Override
    void hold() {
        calls512();
        constants();
        newObject();
        feed();
        end();
        house();
        rule();
        head();
        room();
        door();
        sense();
        was();
        go();
        rest();
        die();
        open();
        undo();
        run();
        would();
        new BoundsOfAnswers(s).hold();
    }

    private void none(String call, Twins.Call refused) {
        refused(call, BoundsOfCalls::fillAll, refused, -1);
    }

    private void noneAtFirst(String call, Twins.Call refused) {
        refused(call + " of a new object", BoundsOfCalls::nothing, refused, -1);
    }

    private void calls512() {
        s.hold("An object is used for at most 512 calls after it has been made; what later calls answer is free.");
        HeadCounts x = new HeadCounts();
        for (int i = 1; i < 512; i++) {
            s.due("call " + i, x.end(0), 0);
        }
        s.due("call 512", x.end(1), -1);
        HeadCounts y = Check.in("rooms 2;door 0 1;head 0 1");
        for (int i = y.count(5); i < 500; i++) {
            y.go(0, 1 - i % 2, false);
        }
        s.due("behind 500 MINUTES by hand", y.rest(), 501);
    }

    private void constants() {
        s.hold("The constants: `NONE = -1`: None.");
        s.due("NONE", HeadCounts.NONE, -1);
    }

    private void newObject() {
        s.hold("No HOUSE, no RULES.");
        HeadCounts x = new HeadCounts();
        for (int what = 0; what <= 13; what++) {
            s.due("count(" + what + ")", x.count(what), what == 11 ? -1 : 0);
        }
        s.due("head", x.head(0, 0), -1);
        s.due("room", x.room(0, 0), -1);
        s.due("would", x.would(0, 0), -1);
        s.due("house, of no TAPE", x.house(), -3);
        s.due("rule, of no TAPE", x.rule(), -3);
        s.due("a RULE can come ahead of a HOUSE", Check.rule(x, "go 1"), 0);
    }

    private void feed() {
        s.hold("Twenty bytes come behind the TAPE, of each number the highest first: how many it has; NONE, and none comes, if it would "
            + "have more than 400.");
        HeadCounts x = new HeadCounts();
        s.due("twenty", x.feed(0x726f6f6d, 0x7320323b, 0x68656164, 0x20312034, 0x3b206865), 20);
        s.due("forty", x.feed(0x61642030, 0x20312020, 0x20202020, 0x20202020, 0x20202020), 40);
        s.due("as one text", x.house(), 2);
        s.due("HALVES", x.head(0, 1), 4);
        s.due("ROOM", x.head(1, 0), 0);
        for (int i = 1; i <= 20; i++) {
            s.due("feed " + i, x.feed(-1, 0, Integer.MIN_VALUE, Integer.MAX_VALUE, i), 20 * i);
        }
        s.due("more than 400", x.feed(0, 0, 0, 0, 0), -1);
        for (int bytes = 381; bytes <= 400; bytes++) {
            int n = bytes;
            refused("feed behind " + n, y -> fillTape(y, n), y -> y.feed(0, 0, 0, 0, 0), -1);
        }
        HeadCounts y = new HeadCounts();
        fillTape(y, 380);
        s.due("feed behind 380", y.feed(0, 0, 0, 0, 0), 400);
    }

    private static void fillTape(HeadCounts x, int bytes) {
        Check.feed(x, filled("rooms 2;head 1 3", bytes));
    }

    private void end() {
        s.hold("The TAPE has its first n bytes alone: n; NONE, and nothing happens, if it has not so many, or n is below 0.");
        HeadCounts x = new HeadCounts();
        s.due("0 of none", x.end(0), 0);
        s.due("1 of none", x.end(1), -1);
        Check.feed(x, "rooms 2;rooms 2");
        s.due("all", x.end(15), 15);
        s.due("more", x.end(16), -1);
        s.due("fewer", x.end(7), 7);
        s.due("what was cut off is gone", x.end(8), -1);
        s.due("the first alone", x.house(), 0);
        for (int n : new int[] {17, 400, 401, -1, Integer.MIN_VALUE, Integer.MAX_VALUE}) {
            none("end(" + n + ")", y -> y.end(n));
        }
        HeadCounts full = new HeadCounts();
        fillTape(full, 400);
        s.due("400 of 400", full.end(400), 400);
        s.due("401 of 400", full.end(401), -1);
    }

    private void house() {
        s.hold("The TAPE, which is empty then, is the HOUSE in place of the one there was (MINUTE 0, no TOLD, nothing to be UNDONE; x "
            + "stays): how many HEADS; -2 - its FAULT, and all stays.");
        HeadCounts x = new HeadCounts();
        fillAll(x);
        s.due("HEADS", x.house(), 1);
        int[] counts = {2, 0, 1, 0, 2, 0, 1, 0, 0, 0, 0, 3, 77, 0};
        for (int what = 0; what < counts.length; what++) {
            s.due("count(" + what + ")", x.count(what), counts[what]);
        }
        s.due("nothing to be UNDONE", x.undo(), -1);
        s.due("no TOLD", x.fits(), 1);
        s.due("nothing of the other is left", x.was(1, 0) + x.room(1, 4), 4);
        s.due("no HEADS", Check.house(x, "rooms 2"), 0);
        s.due("six HEADS", Check.house(x, "rooms 2" + ";head 1 1".repeat(6)), 6);
        for (String text : new String[] {"", "rooms 7", "rooms 2;head 1 4;head 1 9", "rooms 2;head 1 4;", "go 1"}) {
            HeadCounts y = new HeadCounts();
            fillAll(y);
            s.due("a FAULT of '" + text + "'", Check.house(y, text) < -2, true);
            s.due("the TAPE is empty", y.count(13), 0);
            refused("all stays behind '" + text + "'", BoundsOfCalls::fillNoTape, z -> Check.house(z, text) < -2 ? -1 : 0, -1);
        }
    }

    private static void fillNoTape(HeadCounts x) {
        fillAll(x);
        x.end(0);
    }

    private void rule() {
        s.hold("The TAPE, which is empty then, is a RULE: its number; -2 - its FAULT; NONE, and nothing happens: there are 6.");
        HeadCounts x = new HeadCounts();
        fillNoTape(x);
        for (int i = RULES; i < 6; i++) {
            s.due("RULE " + i, Check.rule(x, "go " + i % 3), i);
            s.due("the TAPE is empty", x.count(13), 0);
            s.due("RULES", x.count(4), i + 1);
        }
        refused("rule() of 6", BoundsOfCalls::fillSix, y -> y.rule(), -1);
        refused("rule() of 6 with a FAULT", y -> {
            fillSix(y);
            y.end(3);
        }, y -> y.rule(), -1);
        for (String text : new String[] {"", "go", "rooms 2", "go 1;", "go 123456"}) {
            HeadCounts y = new HeadCounts();
            fillAll(y);
            s.due("a FAULT of '" + text + "'", Check.rule(y, text) < -2, true);
            s.due("the TAPE is empty", y.count(13), 0);
            refused("no RULE by '" + text + "'", BoundsOfCalls::fillNoTape, z -> Check.rule(z, text) < -2 ? -1 : 0, -1);
        }
    }

    private static void fillSix(HeadCounts x) {
        fillAll(x);
        for (int i = RULES; i < 6; i++) {
            Check.rule(x, "go " + i);
        }
        Check.feed(x, "go 1");
    }

    private void head() {
        s.hold("Of a HEAD what 0: its ROOM, 1: HALVES, 2: its first ROOM, 3: the ROOM it came from (NONE), 4: how often it went, 5: 0 it "
            + "lives, 1 dead and counted still, 2 dead. NONE without these.");
        HeadCounts x = new HeadCounts();
        fillAll(x);
        int[][] due = {{0, 2, 0, 1, 2, 0}, {1, 1, 2, 2, 1, 0}, {2, 2, 2, -1, 0, 1}};
        for (int head = 0; head < HEADS; head++) {
            for (int what = 0; what < 6; what++) {
                s.due("head(" + head + ", " + what + ")", x.head(head, what), due[head][what]);
            }
        }
        x.rest();
        s.due("dead and counted, MINUTE 6 of 7", x.head(2, 5), 1);
        x.rest();
        s.due("dead, MINUTE 7", x.head(2, 5), 2);
        s.due("its ROOM still", x.head(2, 0), 2);
        for (int head : outside(HEADS)) {
            none("head(" + head + ", 0)", y -> y.head(head, 0));
        }
        for (int what : outside(6)) {
            none("head(0, " + what + ")", y -> y.head(0, what));
        }
        noneAtFirst("head(0, 0)", y -> y.head(0, 0));
    }

    private void room() {
        s.hold("Of a ROOM what 0: COUNT, 1: FELT, 2: who lives there, as bits, 3: what it holds, 4: DELAY, 5: ROOMS to which OPEN DOORS "
            + "go, as bits. NONE without these.");
        HeadCounts x = new HeadCounts();
        fillAll(x);
        int[][] due = {{2, 2, 1, 99, 0, 2}, {3, 3, 2, 4, 1, 5}, {2, 2, 0, 99, 0, 2}};
        for (int room = 0; room < ROOMS; room++) {
            for (int what = 0; what < 6; what++) {
                s.due("room(" + room + ", " + what + ")", x.room(room, what), due[room][what]);
            }
        }
        for (int room : outside(ROOMS)) {
            none("room(" + room + ", 0)", y -> y.room(room, 0));
        }
        for (int what : outside(6)) {
            none("room(0, " + what + ")", y -> y.room(0, what));
        }
        noneAtFirst("room(0, 0)", y -> y.room(0, 0));
        HeadCounts six = Check.in("rooms 2" + ";head 1 1".repeat(6));
        s.due("all six live there", six.room(1, 2), 63);
        s.due("nobody", six.room(0, 2), 0);
        s.due("no DOORS", six.room(0, 5), 0);
    }

    private void door() {
        s.hold("Of a DOOR what 0, 1: its ROOMS, 2: 1 if it is OPEN, else 0. NONE without these.");
        HeadCounts x = Check.in("rooms 3;door 2 0;door 1 2");
        x.open(1, false);
        int[][] due = {{2, 0, 1}, {1, 2, 0}};
        for (int door = 0; door < DOORS; door++) {
            for (int what = 0; what < 3; what++) {
                s.due("door(" + door + ", " + what + ")", x.door(door, what), due[door][what]);
            }
        }
        for (int door : outside(DOORS)) {
            none("door(" + door + ", 2)", y -> y.door(door, 2));
        }
        for (int what : outside(3)) {
            none("door(0, " + what + ")", y -> y.door(0, what));
        }
        noneAtFirst("door(0, 0)", y -> y.door(0, 0));
    }

    private void sense() {
        s.hold("Of a SENSE what 0: its ROOMS, as bits, 1: FELT. NONE without these.");
        HeadCounts x = new HeadCounts();
        fillAll(x);
        int[][] due = {{1, 2}, {6, 5}};
        for (int sense = 0; sense < SENSES; sense++) {
            for (int what = 0; what < 2; what++) {
                s.due("sense(" + sense + ", " + what + ")", x.sense(sense, what), due[sense][what]);
            }
        }
        for (int sense : outside(SENSES)) {
            none("sense(" + sense + ", 0)", y -> y.sense(sense, 0));
        }
        for (int what : outside(2)) {
            none("sense(0, " + what + ")", y -> y.sense(0, what));
        }
        noneAtFirst("sense(0, 0)", y -> y.sense(0, 0));
    }

    private void was() {
        s.hold("The COUNT of a ROOM of so many MINUTES ago (0 to 9, as far as MINUTES went by); NONE without these.");
        HeadCounts x = Check.in("rooms 2;door 0 1;head 0 1;head 0 2;delay 0 3");
        x.go(0, 1, false);
        for (int minute = 1; minute <= 12; minute++) {
            for (int ago = 0; ago <= 10; ago++) {
                int due = ago > 9 || ago > minute ? -1 : ago == minute ? 3 : 2;
                s.due("was(0, " + ago + ") at MINUTE " + minute, x.was(0, ago), due);
            }
            x.rest();
        }
        for (int ago : new int[] {-1, 6, 9, 10, Integer.MIN_VALUE, Integer.MAX_VALUE}) {
            none("was(0, " + ago + ")", y -> y.was(0, ago));
        }
        for (int room : outside(ROOMS)) {
            none("was(" + room + ", 0)", y -> y.was(room, 0));
        }
        noneAtFirst("was(0, 0)", y -> y.was(0, 0));
        HeadCounts first = Check.in("rooms 2;head 1 3");
        s.due("at MINUTE 0", first.was(1, 0), 3);
        s.due("ahead of it", first.was(1, 1), -1);
    }

    private void go() {
        s.hold("A HEAD goes to a ROOM, a MINUTE goes by: MINUTE; NONE, and nothing happens, if it can't, or without these.");
        HeadCounts x = new HeadCounts();
        fillAll(x);
        s.due("MINUTE", x.go(1, 0, false), 6);
        s.due("there", x.head(1, 0), 0);
        for (boolean isBackwards : new boolean[] {false, true}) {
            for (int head : outside(HEADS)) {
                none("go(" + head + ", 1)", y -> y.go(head, 1, isBackwards));
            }
            for (int room : outside(ROOMS)) {
                none("go(0, " + room + ")", y -> y.go(0, room, isBackwards));
            }
            none("no DOOR", y -> y.go(0, 2, isBackwards));
            none("its own ROOM", y -> y.go(0, 0, isBackwards));
            none("above what ROOM 1 holds", y -> y.go(0, 1, isBackwards));
            none("dead", y -> y.go(NOT_LIVING, 1, isBackwards));
            noneAtFirst("go(0, 1)", y -> y.go(0, 1, isBackwards));
            refused("SHUT", BoundsOfCalls::fillShut, y -> y.go(1, 0, isBackwards), -1);
            refused("at MINUTE 9999", BoundsOfCalls::fillLast, y -> goAnywhere(y, isBackwards), -1);
        }
    }

    /** The greatest answer to all goings. */
    private static int goAnywhere(HeadCounts x, boolean isBackwards) {
        int greatest = -1;
        for (int head = 0; head < HEADS; head++) {
            for (int room = 0; room < ROOMS; room++) {
                greatest = Math.max(greatest, x.go(head, room, isBackwards));
            }
        }
        return greatest;
    }

    private static void fillShut(HeadCounts x) {
        fillAll(x);
        x.open(0, false);
    }

    private void rest() {
        s.hold("Nobody goes, a MINUTE goes by: MINUTE; NONE, and nothing happens, without a HOUSE, or at MINUTE 9999.");
        HeadCounts x = new HeadCounts();
        fillAll(x);
        s.due("MINUTE", x.rest(), 6);
        s.due("nobody went", x.count(10), 3);
        noneAtFirst("rest()", y -> y.rest());
        refused("rest() at MINUTE 9999", BoundsOfCalls::fillLast, y -> y.rest(), -1);
        s.due("without HEADS", Check.in("rooms 2").rest(), 1);
    }

    private void die() {
        s.hold("A HEAD DIES: true; false, and nothing happens, without it, or if it does not live.");
        HeadCounts x = new HeadCounts();
        fillAll(x);
        s.due("it lives", x.die(0), true);
        s.due("living", x.count(6), 1);
        s.due("not twice", x.die(0), false);
        for (int head : outside(HEADS)) {
            refused("die(" + head + ")", BoundsOfCalls::fillAll, y -> y.die(head) ? 1 : 0, 0);
        }
        refused("dead and counted still", BoundsOfCalls::fillAll, y -> y.die(NOT_LIVING) ? 1 : 0, 0);
        refused("dead", y -> {
            fillAll(y);
            y.rest();
            y.rest();
        }, y -> y.die(NOT_LIVING) ? 1 : 0, 0);
        refused("die(0) of a new object", BoundsOfCalls::nothing, y -> y.die(0) ? 1 : 0, 0);
    }

    private void open() {
        s.hold("A DOOR is OPENED, or SHUT: true; false, and nothing happens, without it, or if it is so.");
        HeadCounts x = new HeadCounts();
        fillShut(x);
        s.due("OPENED", x.open(0, true), true);
        s.due("SHUT", x.open(1, false), true);
        for (boolean is : new boolean[] {false, true}) {
            for (int door : outside(DOORS)) {
                refused("open(" + door + ")", BoundsOfCalls::fillAll, y -> y.open(door, is) ? 1 : 0, 0);
            }
            refused("open(0) of a new object", BoundsOfCalls::nothing, y -> y.open(0, is) ? 1 : 0, 0);
        }
        refused("it is SHUT", BoundsOfCalls::fillShut, y -> y.open(0, false) ? 1 : 0, 0);
        refused("it is OPEN", BoundsOfCalls::fillShut, y -> y.open(1, true) ? 1 : 0, 0);
    }

    private void undo() {
        s.hold("The last MINUTE is UNDONE: how many more can be; NONE, and nothing happens: none can.");
        HeadCounts x = new HeadCounts();
        fillAll(x);
        for (int left = 4; left >= 0; left--) {
            s.due("UNDONE", x.undo(), left);
            s.due("MINUTE", x.count(5), left);
        }
        s.due("none can", x.undo(), -1);
        noneAtFirst("undo()", y -> y.undo());
        refused("undo() at MINUTE 0, behind what was by hand", y -> {
            Check.house(y, HOUSE);
            y.open(0, false);
            y.die(1);
            y.tell(1, 1, 1);
        }, y -> y.undo(), -1);
        refused("undo() behind 20", y -> {
            Check.house(y, HOUSE);
            for (int i = 0; i < 21; i++) {
                y.rest();
            }
            for (int i = 0; i < 20; i++) {
                y.undo();
            }
        }, y -> y.undo(), -1);
    }

    private void run() {
        s.hold("BY A RULE n MINUTES (1 to 60): MINUTE; NONE, and nothing happens, without these (no HOUSE), or if it would be above 9999.");
        for (int n : new int[] {1, 2, 59, 60}) {
            HeadCounts x = new HeadCounts();
            fillAll(x);
            s.due("run(1, " + n + ")", x.run(1, n), 5 + n);
            s.due("what can be UNDONE", x.count(9), Math.min(20, 5 + n));
        }
        for (int n : new int[] {0, 61, -1, Integer.MIN_VALUE, Integer.MAX_VALUE}) {
            none("run(0, " + n + ")", y -> y.run(0, n));
        }
        for (int rule : outside(RULES)) {
            none("run(" + rule + ", 1)", y -> y.run(rule, 1));
        }
        refused("no HOUSE", y -> Check.rule(y, "go 1"), y -> y.run(0, 1), -1);
        refused("above 9999", BoundsOfCalls::fillLast, y -> y.run(0, 1), -1);
        for (int n : new int[] {2, 20}) {
            refused("one above 9999", y -> {
                fillLast(y);
                for (int i = 1; i < n; i++) {
                    y.undo();
                }
            }, y -> y.run(0, n), -1);
        }
        HeadCounts last = new HeadCounts();
        fillLast(last);
        for (int i = 0; i < 7; i++) {
            last.undo();
        }
        s.due("8 of 7", last.run(0, 8), -1);
        s.due("7 of 7", last.run(0, 7), 9999);
    }

    private void would() {
        s.hold("Which ROOM a HEAD would go to by a RULE now; -2: none; NONE without these, or if it does not live.");
        HeadCounts x = new HeadCounts();
        fillAll(x);
        s.due("ROOM 1 is full", x.would(0, 0), -2);
        s.due("HEAD 1 by few", x.would(0, 1), 0);
        s.due("HEAD 1 by the second CLAUSE", x.would(1, 1), 0);
        s.due("HEAD 0 by the first", x.would(1, 0), -2);
        for (int rule : outside(RULES)) {
            none("would(" + rule + ", 0)", y -> y.would(rule, 0));
        }
        for (int head : outside(HEADS)) {
            none("would(0, " + head + ")", y -> y.would(0, head));
        }
        none("it does not live", y -> y.would(0, NOT_LIVING));
        refused("no HOUSE", y -> Check.rule(y, "go 1"), y -> y.would(0, 0), -1);
        refused("no RULES", y -> Check.house(y, HOUSE), y -> y.would(0, 0), -1);
    }
}
