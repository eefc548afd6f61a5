/** The promises of what is asked, of draws and of images: what each call takes and what it refuses. */
final class BoundsOfAnswers extends Bounds {
    private static final String HOUSE = "rooms 2;door 0 1;head 0 1;sense 1";
    private static final int ROOMS = 3;
    private static final int HEADS = 3;
    private static final int SENSES = 2;
    private static final int NOT_LIVING = 2;

    BoundsOfAnswers(Sentences s) {
        super(s);
    }

    @Override
    void hold() {
        tell();
        fits();
        who();
        first();
        next();
        known();
        watch();
        secret();
        theft();
        gather();
        messages();
        swaps();
        seed();
        nights();
        count();
        image();
        back();
    }

    private static HeadCounts all() {
        HeadCounts x = new HeadCounts();
        BoundsOfCalls.fillAll(x);
        return x;
    }

    private static HeadCounts allButFitting() {
        HeadCounts x = all();
        x.tell(0, 0, 0);
        return x;
    }

    private void none(String call, Twins.Call refused) {
        refused(call, BoundsOfCalls::fillAll, refused, -1);
    }

    private void noneAtFirst(String call, Twins.Call refused) {
        refused(call + " of a new object", x -> x.end(0), refused, -1);
    }

    private void tell() {
        s.hold("TOLD (minutes NONE: nothing is then, 0): how many; -2, and nothing happens, without these (HALVES 0 to 99), or if there "
            + "are 12.");
        HeadCounts x = all();
        s.due("0 MINUTES, 0 HALVES, SENSE 0", x.tell(0, 0, 0), 3);
        s.due("8 MINUTES, 99 HALVES, SENSE 1", x.tell(8, 1, 99), 4);
        s.due("nothing is TOLD, whatever else", x.tell(-1, -7, 100), 0);
        s.due("nothing is", x.fits(), 1);
        s.due("count", x.count(8), 0);
        s.due("nothing is TOLD again", x.tell(-1, 0, 0), 0);
        s.due("the first", x.tell(1, 0, 2), 1);
        for (int minutes : new int[] {-2, 9, Integer.MIN_VALUE, Integer.MAX_VALUE}) {
            refused("tell(" + minutes + ", 0, 0)", BoundsOfCalls::fillAll, y -> y.tell(minutes, 0, 0), -2);
        }
        for (int sense : outside(SENSES)) {
            refused("tell(0, " + sense + ", 0)", BoundsOfCalls::fillAll, y -> y.tell(0, sense, 0), -2);
        }
        for (int halves : outside(100)) {
            refused("tell(0, 0, " + halves + ")", BoundsOfCalls::fillAll, y -> y.tell(0, 0, halves), -2);
        }
        refused("tell of 12", BoundsOfAnswers::fillTold, y -> y.tell(0, 0, 2), -2);
        HeadCounts full = new HeadCounts();
        fillTold(full);
        s.due("nothing is, of 12", full.tell(-1, 0, 0), 0);
        refused("tell of a new object", y -> y.end(0), y -> y.tell(0, 0, 0), -2);
        s.due("nothing is, of a new object", new HeadCounts().tell(-1, 0, 0), 0);
    }

    private static void fillTold(HeadCounts x) {
        Check.house(x, HOUSE);
        for (int i = 0; i < 12; i++) {
            x.tell(i % 9, 0, 1);
        }
    }

    private void fits() {
        s.hold("MOVINGS that FIT; NONE without a HOUSE.");
        s.due("HEAD 0 goes to ROOM 1 and back", all().fits(), 1);
        s.due("none", allButFitting().fits(), 0);
        noneAtFirst("fits()", x -> x.fits());
        HeadCounts all = Check.in("rooms 6;door 0 1;door 0 2;door 0 3;door 0 4;door 0 5" + ";head 0 1".repeat(6) + ";sense 63");
        for (int i = 0; i < 8; i++) {
            all.tell(i + 1, 0, 6);
        }
        s.due("more than an int holds", all.fits() > Integer.MAX_VALUE, true);
    }

    private void who() {
        s.hold("WHO, as bits (0 if none FITS); NONE without it, or if it does not live.");
        s.due("HEAD 0", all().who(0), 1);
        s.due("HEAD 1", all().who(1), 2);
        s.due("none FITS", allButFitting().who(0), 0);
        for (int head : outside(HEADS)) {
            none("who(" + head + ")", x -> x.who(head));
        }
        none("it does not live", x -> x.who(NOT_LIVING));
        s.due("it does not live, and none FITS", allButFitting().who(NOT_LIVING), -1);
        noneAtFirst("who(0)", x -> x.who(0));
    }

    private void first() {
        s.hold("FIRST; -2: some FIT all; NONE without a HOUSE.");
        s.due("some FIT", all().first(), -2);
        s.due("the third", allButFitting().first(), 2);
        s.due("without TOLD", Check.in("rooms 2").first(), -2);
        noneAtFirst("first()", x -> x.first());
    }

    private void next() {
        s.hold("NEXT what 0: the ROOM, 1: how many SITUATIONS, 2: how many stay at most; -2: none FITS (what 0, 2); NONE without these, "
            + "or a HOUSE.");
        int[] due = {0, 1, 1};
        int[] none = {-2, 0, -2};
        for (int what = 0; what < 3; what++) {
            s.due("next(" + what + ")", all().next(what), due[what]);
            s.due("none FITS: next(" + what + ")", allButFitting().next(what), none[what]);
            int asked = what;
            noneAtFirst("next(" + what + ")", x -> x.next(asked));
        }
        for (int what : outside(3)) {
            none("next(" + what + ")", x -> x.next(what));
            s.due("none FITS: next(" + what + ")", allButFitting().next(what), -1);
        }
    }

    private void known() {
        s.hold("KNOWN by a set of ROOMS: 1, or 0; NONE without these, or a HOUSE.");
        int[] due = {0, 0, 0, 1, 0, 1, 1, 1};
        for (int set = 0; set < 8; set++) {
            s.due("known(" + set + ")", all().known(set), due[set]);
        }
        for (int set : outside(8)) {
            none("known(" + set + ")", x -> x.known(set));
        }
        for (int n = 2; n <= 6; n++) {
            HeadCounts x = Check.in("rooms " + n);
            s.due("all of " + n, x.known((1 << n) - 1), 1);
            s.due("one more", x.known(1 << n), -1);
        }
        noneAtFirst("known(0)", x -> x.known(0));
        noneAtFirst("known(1)", x -> x.known(1));
    }

    private void watch() {
        s.hold("WATCH, as bits; NONE without a HOUSE.");
        s.due("ROOMS 0 and 1", all().watch(), 3);
        s.due("no ROOM", Check.in("rooms 2").watch(), 0);
        noneAtFirst("watch()", x -> x.watch());
    }

    private void secret() {
        s.hold("SECRET what 0: how many go, 1 to 6: the ROOM of that HEAD less 1 behind it (NONE: no such HEAD, or it does not live); -2: "
            + "it can't be; NONE without these (it lives; another ROOM).");
        int[] due = {1, 0, 2, -1, -1, -1, -1};
        for (int what = 0; what < 7; what++) {
            s.due("secret(1, 2, " + what + ")", all().secret(1, 2, what), due[what]);
            s.due("secret(0, 1, " + what + ")", all().secret(0, 1, what), -2);
        }
        for (int what : outside(7)) {
            none("secret(1, 2, " + what + ")", x -> x.secret(1, 2, what));
            none("secret(0, 1, " + what + ")", x -> x.secret(0, 1, what));
        }
        for (int head : outside(HEADS)) {
            none("secret(" + head + ", 1, 0)", x -> x.secret(head, 1, 0));
        }
        for (int room : outside(ROOMS)) {
            none("secret(0, " + room + ", 0)", x -> x.secret(0, room, 0));
        }
        none("it does not live", x -> x.secret(NOT_LIVING, 1, 0));
        none("its own ROOM", x -> x.secret(1, 1, 0));
        noneAtFirst("secret(0, 1, 0)", x -> x.secret(0, 1, 0));
        HeadCounts six = Check.in("rooms 6;door 4 5" + ";head 4 1".repeat(6));
        s.due("the last HEAD", six.secret(5, 5, 6), 5);
        s.due("the first HEAD", six.secret(5, 5, 1), 4);
    }

    private void theft() {
        s.hold("THEFT what 0: MINUTES, 1: goings; -2: it can't be, -3: UNKNOWN; NONE without these (it lives).");
        for (int what = 0; what < 2; what++) {
            s.due("theft(1, 2, " + what + ")", all().theft(1, 2, what), 1);
            s.due("its own ROOM: theft(1, 1, " + what + ")", all().theft(1, 1, what), 0);
            s.due("theft(0, 1, " + what + ")", all().theft(0, 1, what), -2);
            s.due("theft(1, 0, " + what + ")", all().theft(1, 0, what), -2);
            Thousand unknown = Thousand.ALL[1];
            s.due(unknown.what, Check.in(unknown.house).theft(0, unknown.room, what), -3);
        }
        for (int what : outside(2)) {
            none("theft(1, 2, " + what + ")", x -> x.theft(1, 2, what));
        }
        for (int head : outside(HEADS)) {
            none("theft(" + head + ", 1, 0)", x -> x.theft(head, 1, 0));
        }
        for (int room : outside(ROOMS)) {
            none("theft(0, " + room + ", 0)", x -> x.theft(0, room, 0));
        }
        none("it does not live", x -> x.theft(NOT_LIVING, 1, 0));
        none("it does not live, and is there", x -> x.theft(NOT_LIVING, 2, 0));
        noneAtFirst("theft(0, 0, 0)", x -> x.theft(0, 0, 0));
    }

    private void gather() {
        s.hold("GATHER what 0: MINUTES, 1: who goes first, 2: to which ROOM (-2: none needs go); -2: it can't be; NONE without these "
            + "(HALVES 0 to 99).");
        int[][] due = {{1, 3, 1, 0, 1}, {0, 3, 1, 1, 0}, {2, 3, 3, 0, 1}, {1, 1, 0, -2, -2}, {1, 4, -2, -2, -2}, {1, 99, -2, -2, -2},
            {2, 0, 0, -2, -2}, {1, 0, 1, 1, 0}};
        for (int[] row : due) {
            for (int what = 0; what < 3; what++) {
                s.due("gather(" + row[0] + ", " + row[1] + ", " + what + ")", all().gather(row[0], row[1], what), row[2 + what]);
            }
        }
        for (int room : outside(ROOMS)) {
            none("gather(" + room + ", 1, 0)", x -> x.gather(room, 1, 0));
        }
        for (int halves : outside(100)) {
            none("gather(1, " + halves + ", 0)", x -> x.gather(1, halves, 0));
        }
        for (int what : outside(3)) {
            none("gather(1, 1, " + what + ")", x -> x.gather(1, 1, what));
            none("gather(1, 4, " + what + ")", x -> x.gather(1, 4, what));
        }
        noneAtFirst("gather(0, 0, 0)", x -> x.gather(0, 0, 0));
    }

    private void messages() {
        s.hold("MESSAGES; NONE without these (it lives).");
        s.due("in 0", all().messages(0, 0), 1);
        s.due("in 12", all().messages(0, 12), 4096);
        for (int n : outside(13)) {
            none("messages(0, " + n + ")", x -> x.messages(0, n));
        }
        for (int head : outside(HEADS)) {
            none("messages(" + head + ", 1)", x -> x.messages(head, 1));
        }
        none("it does not live", x -> x.messages(NOT_LIVING, 0));
        noneAtFirst("messages(0, 0)", x -> x.messages(0, 0));
    }

    private void swaps() {
        s.hold("SWAPS what 0: that nobody would feel, 1: of all; NONE without these, or a HOUSE.");
        s.due("felt", all().swaps(0), 0);
        s.due("of all", all().swaps(1), 1);
        for (int what : outside(2)) {
            none("swaps(" + what + ")", x -> x.swaps(what));
        }
        noneAtFirst("swaps(0)", x -> x.swaps(0));
        noneAtFirst("swaps(1)", x -> x.swaps(1));
        s.due("without HEADS", Check.in("rooms 2;door 0 1").swaps(1), 0);
    }

    private void seed() {
        s.hold("x becomes a number: what it was; NONE, and nothing happens, below 0.");
        HeadCounts x = new HeadCounts();
        s.due("0 at first", x.seed(2147483647), 0);
        s.due("the greatest", x.seed(0), 2147483647);
        s.due("the least", x.seed(1), 0);
        s.due("x", x.count(12), 1);
        none("seed(-1)", y -> y.seed(-1));
        none("the least int", y -> y.seed(Integer.MIN_VALUE));
        noneAtFirst("seed(-1)", y -> y.seed(-1));
    }

    private void nights() {
        s.hold("NIGHTS (bar 0 to 99) what 0: MINUTES, 1: goings. NONE without these.");
        s.due("once one", all().nights(1, 1, 0, 0, 0), 1);
        s.due("20 times 100", all().nights(20, 100, 1, 0, 0), 2000);
        s.due("bar 99", all().nights(20, 100, 1, 99, 0), 0);
        s.due("goings, whatever the bar", all().nights(20, 100, 1, 0, 1) - all().nights(20, 100, 0, 99, 1), 0);
        for (int m : new int[] {0, 21, -1, Integer.MIN_VALUE, Integer.MAX_VALUE}) {
            none("m " + m, x -> x.nights(m, 1, 0, 0, 0));
        }
        for (int n : new int[] {0, 101, -1, Integer.MIN_VALUE, Integer.MAX_VALUE}) {
            none("n " + n, x -> x.nights(1, n, 0, 0, 0));
        }
        for (int sense : outside(SENSES)) {
            none("SENSE " + sense, x -> x.nights(1, 1, sense, 0, 0));
        }
        for (int bar : outside(100)) {
            none("bar " + bar, x -> x.nights(1, 1, 0, bar, 1));
        }
        for (int what : outside(2)) {
            none("what " + what, x -> x.nights(1, 1, 0, 0, what));
        }
        noneAtFirst("nights(1, 1, 0, 0, 0)", x -> x.nights(1, 1, 0, 0, 0));
        s.due("without SENSES", Check.in("rooms 2").nights(1, 1, 0, 0, 1), -1);
    }

    private void count() {
        s.hold("What 0: ROOMS, 1: DOORS, 2: HEADS, 3: SENSES, 4: RULES, 5: MINUTE, 6: HEADS that live, 7: ECHOES, 8: TOLD, 9: MINUTES "
            + "that can be UNDONE, 10: goings in all, 11: linger, 12: x, 13: bytes of the TAPE. NONE for others (11 without a HOUSE, "
            + "too).");
        int[] due = {3, 2, 3, 2, 2, 5, 2, 1, 2, 5, 3, 4, 77, 16};
        HeadCounts x = new HeadCounts();
        for (int what = 0; what < due.length; what++) {
            s.due("count(" + what + ")", all().count(what), due[what]);
            s.due("count(" + what + ") of a new object", x.count(what), what == 11 ? -1 : 0);
        }
        for (int what : outside(14)) {
            none("count(" + what + ")", y -> y.count(what));
        }
        noneAtFirst("count(11)", y -> y.count(11));
        noneAtFirst("count(14)", y -> y.count(14));
        s.due("linger 0 with a HOUSE", Check.in("rooms 2;linger 0").count(11), 0);
    }

    private void image() {
        s.hold("An IMAGE is made: MINUTE; NONE without it.");
        for (int k = 0; k < 4; k++) {
            HeadCounts x = all();
            s.due("image(" + k + ")", x.image(k), 5);
            x.rest();
            s.due("made anew", x.image(k), 6);
            x.rest();
            s.due("back", x.back(k), 6);
            s.due("without a HOUSE", new HeadCounts().image(k), 0);
        }
        for (int k : outside(4)) {
            none("image(" + k + ")", x -> x.image(k));
            noneAtFirst("image(" + k + ")", x -> x.image(k));
        }
    }

    private void back() {
        s.hold("All is as in an IMAGE: MINUTE; NONE, and nothing happens, if it was never made, or without it.");
        HeadCounts x = all();
        s.due("back(0)", x.back(0), 1);
        int[] due = {3, 2, 3, 2, 2, 1, 3, 1, 0, 1, 1, 4, 77, 16};
        for (int what = 0; what < due.length; what++) {
            s.due("count(" + what + ")", x.count(what), due[what]);
        }
        s.due("back(2)", x.back(2), 4);
        s.due("its DOOR", x.door(1, 2), 0);
        s.due("back(0) again", x.back(0), 1);
        none("back(1), never made", y -> y.back(1));
        none("back(3), never made", y -> y.back(3));
        for (int k : outside(4)) {
            none("back(" + k + ")", y -> y.back(k));
        }
        noneAtFirst("back(0)", y -> y.back(0));
        HeadCounts nothing = new HeadCounts();
        nothing.image(3);
        Check.house(nothing, HOUSE);
        s.due("back to no HOUSE", nothing.back(3), 0);
        s.due("no ROOMS", nothing.count(0), 0);
        s.due("no HOUSE", nothing.rest(), -1);
    }
}
