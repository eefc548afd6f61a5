import java.util.Arrays;

/**
 * Two objects by the same calls, of which one is asked something more: by Twins.differ it is known whether that changed
 * anything that can be asked. Each look takes objects of its own, as what one looks at in it may change them, and as an
 * object is good for 512 calls only.
 */
final class Twins {
    /** Calls that bring an object to where it is looked at. */
    interface Calls {
        void on(HeadCounts x);
    }

    /** One call and its answer. */
    interface Call {
        long of(HeadCounts x);
    }

    private interface Look {
        long[] at(HeadCounts x);
    }

    private static final Look[] LOOKS = {Twins::counts, Twins::pasts, Twins::fitting, Twins::rowsOfGoings, Twins::roomsUndone,
        Twins::handsUndone, Twins::images, Twins::tapeAsHouse, Twins::tapeAsRule, Twins::rules};

    private Twins() {
    }

    static boolean differ(Calls made, Call more) {
        for (Look look : LOOKS) {
            HeadCounts one = new HeadCounts();
            HeadCounts other = new HeadCounts();
            made.on(one);
            made.on(other);
            more.of(one);
            if (!Arrays.equals(look.at(one), look.at(other))) {
                return true;
            }
        }
        return false;
    }

    private static final class Answers {
        private long[] all = new long[64];
        private int size;

        void add(long answer) {
            if (size == all.length) {
                all = Arrays.copyOf(all, 2 * size);
            }
            all[size++] = answer;
        }

        long[] row() {
            return Arrays.copyOf(all, size);
        }
    }

    private static long[] counts(HeadCounts x) {
        Answers a = new Answers();
        addCounts(a, x);
        for (int i = 0; i < 6; i++) {
            for (int what = 0; what < 6; what++) {
                a.add(x.head(i, what));
                a.add(x.room(i, what));
            }
            a.add(x.sense(i, 0));
            a.add(x.sense(i, 1));
        }
        for (int door = 0; door < 10; door++) {
            for (int what = 0; what < 3; what++) {
                a.add(x.door(door, what));
            }
        }
        return a.row();
    }

    private static void addCounts(Answers a, HeadCounts x) {
        for (int what = 0; what < 14; what++) {
            a.add(x.count(what));
        }
    }

    private static long[] pasts(HeadCounts x) {
        Answers a = new Answers();
        for (int room = 0; room < 6; room++) {
            for (int ago = 0; ago < 10; ago++) {
                a.add(x.was(room, ago));
            }
        }
        return a.row();
    }

    private static long[] fitting(HeadCounts x) {
        Answers a = new Answers();
        a.add(x.fits());
        a.add(x.first());
        for (int what = 0; what < 3; what++) {
            a.add(x.next(what));
        }
        a.add(x.watch());
        a.add(x.swaps(0));
        a.add(x.swaps(1));
        for (int i = 0; i < 6; i++) {
            a.add(x.who(i));
            a.add(x.messages(i, 3));
            a.add(x.known(i));
            a.add(x.nights(2, 9, i, 2, 0));
            a.add(x.nights(2, 9, i, 2, 1));
        }
        return a.row();
    }

    private static long[] rowsOfGoings(HeadCounts x) {
        Answers a = new Answers();
        for (int head = 0; head < 6; head++) {
            for (int room = 0; room < 6; room++) {
                a.add(x.secret(head, room, 0));
                a.add(x.theft(head, room, 0));
                a.add(x.gather(room, head, 0));
            }
            for (int rule = 0; rule < 6; rule++) {
                a.add(x.would(rule, head));
            }
        }
        return a.row();
    }

    private static long[] roomsUndone(HeadCounts x) {
        Answers a = new Answers();
        addRooms(a, x);
        for (int i = 0; i < 21; i++) {
            a.add(x.undo());
            addRooms(a, x);
        }
        return a.row();
    }

    private static void addRooms(Answers a, HeadCounts x) {
        a.add(x.count(5));
        for (int i = 0; i < 6; i++) {
            a.add(x.head(i, 0));
            a.add(x.head(i, 5));
            a.add(x.room(i, 0));
        }
    }

    private static long[] handsUndone(HeadCounts x) {
        Answers a = new Answers();
        for (int i = 0; i < 21; i++) {
            a.add(x.undo());
            for (int what = 6; what < 11; what++) {
                a.add(x.count(what));
            }
            for (int room = 0; room < 6; room++) {
                a.add(x.room(room, 1));
                a.add(x.room(room, 5));
            }
        }
        return a.row();
    }

    private static long[] images(HeadCounts x) {
        Answers a = new Answers();
        for (int k = 0; k < 4; k++) {
            a.add(x.back(k));
            addCounts(a, x);
            addRooms(a, x);
            a.add(x.fits());
            a.add(x.undo());
            addRooms(a, x);
        }
        return a.row();
    }

    private static long[] tapeAsHouse(HeadCounts x) {
        Answers a = new Answers();
        a.add(x.house());
        addCounts(a, x);
        addRooms(a, x);
        return a.row();
    }

    private static long[] tapeAsRule(HeadCounts x) {
        Answers a = new Answers();
        a.add(x.rule());
        for (int rule = 0; rule < 6; rule++) {
            for (int head = 0; head < 6; head++) {
                a.add(x.would(rule, head));
            }
        }
        return a.row();
    }

    private static long[] rules(HeadCounts x) {
        Answers a = new Answers();
        for (int rule = 0; rule < 6; rule++) {
            a.add(x.run(rule, 3));
            addRooms(a, x);
        }
        return a.row();
    }
}
