/** Part III of the terms but for what is drawn and stolen: what was told, who can be where, and what tells it. */
final class BoundsOfAsking extends Bounds {
    /** One head, felt in ROOM 0 alone by SENSE 0. */
    private static final String TWO = "rooms 2;door 0 1;head 0 1;sense 1";
    private static final String LINE = "rooms 3;door 0 1;door 1 2;head 0 1;sense 7;sense 4";

    BoundsOfAsking(Sentences s) {
        super(s);
    }

    @Override
    void hold() {
        nothingChanges();
        livingAlone();
        situations();
        told();
        movings();
        who();
        first();
        next();
        known();
        watch();
        messages();
        swaps();
    }

    private void nothingChanges() {
        s.hold("(By what is asked nothing changes.");
        Twins.Call[] asked = {x -> x.fits(), x -> x.who(0), x -> x.first(), x -> x.next(0), x -> x.known(3), x -> x.watch(),
            x -> x.secret(0, 1, 0), x -> x.secret(1, 1, 2), x -> x.theft(0, 2, 0), x -> x.theft(1, 1, 1), x -> x.gather(1, 3, 0),
            x -> x.gather(2, 0, 1), x -> x.messages(0, 12), x -> x.swaps(0), x -> x.nights(20, 100, 1, 1, 0), x -> x.would(0, 0)};
        for (int i = 0; i < asked.length; i++) {
            s.due("question " + i + " changed something", Twins.differ(BoundsOfCalls::fillAll, asked[i]), false);
            oneBehindAnother(asked[i], asked, BoundsOfCalls::fillAll);
            oneBehindAnother(asked[i], asked, BoundsOfAsking::fillWide);
        }
    }

    private void oneBehindAnother(Twins.Call one, Twins.Call[] others, Twins.Calls made) {
        for (int i = 0; i < others.length; i++) {
            HeadCounts x = new HeadCounts();
            made.on(x);
            HeadCounts y = new HeadCounts();
            made.on(y);
            one.of(x);
            s.due("question " + i + " behind another", others[i].of(x), others[i].of(y));
        }
    }

    /** A house in which there are many situations behind the first TOLD, and none behind the last. */
    private static void fillWide(HeadCounts x) {
        Check.house(x, "rooms 6;door 0 1;door 1 2;door 2 3;door 3 4;door 4 5;door 5 0;head 0 1;head 1 1;head 2 2;head 3 1;sense 63;sense 1");
        Check.rule(x, "go few");
        for (int i = 0; i < 6; i++) {
            x.tell(3, 0, 5);
        }
        x.tell(3, 0, 4);
    }

    private void livingAlone() {
        s.hold("Here living HEADS alone count, without ECHOES and DELAYS; DOORS as they are now, ROOMS hold as told.)");
        HeadCounts x = Check.in("rooms 2;door 0 1;head 0 1;head 0 2;most 1 2;sense 1;sense 2;linger 9;delay 0 5");
        x.go(1, 1, true);
        s.due("II counts the ECHO", x.room(0, 0), 3);
        x.tell(0, 0, 1);
        s.due("III does not", x.fits(), 1);
        s.due("gather", x.gather(0, 1, 0), 0);
        x.die(1);
        s.due("the dead fill a ROOM in II", x.go(0, 1, false), -1);
        x.tell(1, 1, 1);
        s.due("not in III", x.fits(), 1);
        s.due("gather", x.gather(1, 1, 0), 1);
        s.due("secret", x.secret(0, 1, 0), -2);
        s.due("messages", x.messages(0, 1), 2);
        s.due("known", x.known(0), 0);
        x.open(0, false);
        s.due("DOORS as they are now", x.fits(), 0);
        s.due("gather", x.gather(1, 1, 0), -2);
        s.due("messages", x.messages(0, 1), 1);
        s.due("known", x.known(0), 1);
        HeadCounts y = Check.in("rooms 2;door 0 1;head 0 2;head 0 2;most 1 2;sense 3");
        y.tell(1, 0, 4);
        s.due("one goes or the other", y.fits(), 3);
        y.tell(2, 0, 4);
        s.due("but not both, as ROOM 1 holds 2", y.fits(), 3 + 2 + 2);
        HeadCounts z = Check.in("rooms 2;door 0 1;head 0 2;head 0 2;most 1 4;sense 3");
        z.tell(2, 0, 4);
        s.due("and both, if it holds 4", z.fits(), 3 + 3 + 3);
    }

    private void situations() {
        s.hold("A SITUATION: where all living HEADS are. SITUATIONS come one from another by MINUTES.");
        HeadCounts x = Check.in("rooms 2;door 0 1;head 0 1;head 0 1;sense 3");
        x.tell(1, 0, 2);
        s.due("of like HEADS it counts which is where", x.next(1), 3);
        x.tell(2, 0, 2);
        s.due("all there are", x.next(1), 4);
        x.die(0);
        x.tell(-1, 0, 0);
        x.tell(2, 0, 1);
        s.due("of one that lives", x.next(1), 2);
        x.die(1);
        s.due("of none: it can't be so", x.next(1), 0);
        x.tell(-1, 0, 0);
        s.due("of none: the empty one", x.next(1), 1);
        x.tell(8, 0, 0);
        s.due("which comes of itself", x.fits(), 1);
    }

    private void told() {
        s.hold("TOLD, 12 at most: behind so many MINUTES from now (0 to 8) the COUNT of a SENSE was so many HALVES.");
        HeadCounts x = Check.in(TWO);
        for (int i = 1; i <= 12; i++) {
            s.due("TOLD " + i, x.tell(i % 9, 0, i == 12 ? 1 : i % 2), i == 13 ? -2 : i);
        }
        s.due("a thirteenth", x.tell(0, 0, 1), -2);
        HeadCounts y = Check.in(TWO);
        y.tell(0, 0, 1);
        s.due("so now", y.fits(), 1);
        y.go(0, 1, false);
        s.due("not so from this now", y.fits(), 0);
        y.undo();
        s.due("so from that, which is now again", y.fits(), 1);
        y.image(0);
        Check.rule(y, "go 1-at");
        y.run(0, 1);
        s.due("not so by a RULE", y.fits(), 0);
        y.back(0);
        s.due("so again", y.fits(), 1);
        y.die(0);
        s.due("not so of the dead", y.fits(), 0);
        Check.house(y, TWO);
        s.due("in another HOUSE nothing is TOLD", y.fits(), 1);
        y.go(0, 1, false);
        y.tell(0, 0, 1);
        s.due("not so from this now", y.fits(), 0);
        y.tell(-1, 0, 0);
        y.tell(0, 0, 0);
        s.due("but so", y.fits(), 1);
        HeadCounts z = Check.in(TWO);
        z.tell(8, 0, 0);
        s.due("behind 8: half of all rows of going and staying", z.fits(), 128);
        s.due("behind 9", z.tell(9, 0, 0), -2);
        HeadCounts all = Check.in("rooms 2;door 0 1" + ";head 0 4".repeat(6) + ";sense 3;sense 2");
        all.tell(8, 0, 24);
        s.due("24 HALVES, all there can be", all.fits(), 5764801);
        all.tell(8, 0, 25);
        s.due("none has 25", all.fits(), 0);
        all.tell(-1, 0, 0);
        all.tell(6, 1, 24);
        s.due("all six in six MINUTES, in any order", all.fits(), 720);
    }

    private void movings() {
        s.hold("MOVINGS: rows of as many MINUTES as the latest TOLD has (0 without), in each one HEAD goes or nobody; those FIT by "
            + "which all TOLD are so: how many.");
        HeadCounts x = Check.in("rooms 2;door 0 1;head 0 1;head 0 2;sense 3;sense 1");
        s.due("without: the empty row", x.fits(), 1);
        x.tell(0, 0, 3);
        s.due("of no MINUTES", x.fits(), 1);
        x.tell(2, 0, 3);
        x.tell(1, 0, 3);
        s.due("of two, though of one was told last", x.fits(), 9);
        x.tell(1, 1, 2);
        s.due("HEAD 0 goes, and then what likes", x.fits(), 3);
        x.tell(2, 1, 0);
        s.due("and then HEAD 1", x.fits(), 1);
        x.tell(2, 1, 1);
        s.due("not both", x.fits(), 0);
        HeadCounts three = Check.in("rooms 2;door 0 1;head 0 1;head 0 1;head 0 1;sense 3;sense 1");
        three.tell(1, 1, 2);
        three.tell(2, 0, 3);
        s.due("one of three goes, then one of three or nobody", three.fits(), 12);
        s.due("behind them none, one or two are gone", three.next(1), 7);
        three.tell(3, 1, 1);
        s.due("then two are: from one by two that go, from two by nobody, three times each", three.fits(), 3 * (2 + 1 + 1));
        s.due("which two", three.next(1), 3);
        HeadCounts none = Check.in("rooms 2;door 0 1;sense 1");
        none.tell(8, 0, 0);
        s.due("without HEADS nobody goes", none.fits(), 1);
    }

    private void who() {
        s.hold("WHO: a HEAD's ROOMS at the end of these, as bits.");
        HeadCounts x = Check.in(LINE);
        s.due("now", x.who(0), 1);
        x.tell(1, 0, 1);
        s.due("behind one", x.who(0), 3);
        x.tell(2, 0, 1);
        s.due("behind two", x.who(0), 7);
        x.tell(1, 1, 0);
        x.tell(2, 1, 1);
        s.due("at the end, not on the way", x.who(0), 4);
        x.tell(0, 1, 1);
        s.due("none FITS", x.who(0), 0);
    }

    private void first() {
        s.hold("FIRST: the first TOLD (by their numbers) behind which, with those ahead of it, no MOVING FITS.");
        HeadCounts x = Check.in(TWO);
        s.due("none TOLD", x.first(), -2);
        x.tell(2, 0, 1);
        x.tell(1, 0, 0);
        x.tell(0, 0, 1);
        s.due("some FIT all", x.first(), -2);
        x.tell(1, 0, 1);
        s.due("the fourth is not so, if the second is", x.first(), 3);
        x.tell(0, 0, 0);
        s.due("the first still", x.first(), 3);
        HeadCounts y = Check.in(TWO);
        y.tell(0, 0, 0);
        s.due("number 0", y.first(), 0);
        y.tell(8, 0, 1);
        s.due("number 0", y.first(), 0);
        HeadCounts z = Check.in(TWO);
        for (int i = 0; i < 11; i++) {
            z.tell(i % 9, 0, 1);
            s.due("some FIT", z.first(), -2);
        }
        z.tell(3, 0, 0);
        s.due("number 11, the last", z.first(), 11);
        for (int wrong = 0; wrong < 12; wrong++) {
            HeadCounts w = Check.in(TWO);
            for (int i = 0; i < 12; i++) {
                w.tell(8 - i % 9, 0, i == wrong ? 2 : 1);
            }
            s.due("number " + wrong, w.first(), wrong);
        }
    }

    private void next() {
        s.hold("NEXT: of the SITUATIONS at the end of those that FIT: the ROOM by whose COUNT they part best: the most with one COUNT "
            + "are fewest, of several the least ROOM; how many SITUATIONS; how many stay at most.");
        HeadCounts one = Check.in("rooms 3;door 1 2;head 1 1;sense 7");
        s.due("one SITUATION: of several the least ROOM", one.next(0), 0);
        s.due("one SITUATION", one.next(1), 1);
        s.due("it stays", one.next(2), 1);
        one.tell(1, 0, 1);
        s.due("by ROOM 0 both stay", one.next(0), 1);
        s.due("two", one.next(1), 2);
        s.due("one stays", one.next(2), 1);
        HeadCounts three = Check.in("rooms 2;door 0 1;head 0 1;head 0 1;head 0 1;sense 3");
        three.tell(1, 0, 3);
        s.due("alike in both ROOMS", three.next(0), 0);
        s.due("nobody goes, or one of three", three.next(1), 4);
        s.due("three have one COUNT", three.next(2), 3);
        HeadCounts last = Check.in("rooms 6;door 4 5;head 4 4;head 5 4;sense 48;most 4 4");
        last.tell(1, 0, 8);
        s.due("ROOM 4 of 4 and 5 by 4 and 0, 4 and 8", last.next(0), 4);
        HeadCounts most = Check.in("rooms 6;door 0 5" + ";head 0 4".repeat(6) + ";sense 33");
        most.tell(6, 0, 24);
        s.due("all that can be", most.next(1), 64);
        s.due("of six any three", most.next(2), 20);
    }

    private void known() {
        s.hold("KNOWN by a set of ROOMS: of all GOINGS that could be in a MINUTE now no two from or to unlike ROOMS change the COUNTS "
            + "of these alike, and none changes none of them.");
        HeadCounts one = Check.in("rooms 3;door 0 1;head 0 1");
        int[] byOne = {0, 1, 1, 1, 0, 1, 1, 1};
        HeadCounts from = Check.in("rooms 3;door 0 2;door 1 2;head 0 1;head 1 1");
        int[] byFrom = {0, 0, 0, 1, 0, 1, 1, 1};
        HeadCounts to = Check.in("rooms 3;door 0 1;door 0 2;head 0 1");
        int[] byTo = {0, 0, 0, 1, 0, 1, 1, 1};
        HeadCounts unlike = Check.in("rooms 3;door 0 2;door 1 2;head 0 1;head 1 2");
        int[] byUnlike = {0, 0, 0, 1, 1, 1, 1, 1};
        HeadCounts across = Check.in("rooms 3;door 0 2;head 0 1;head 2 1");
        int[] byAcross = {0, 1, 0, 1, 1, 1, 1, 1};
        HeadCounts same = Check.in("rooms 3;door 0 1;head 0 1;head 0 1;head 0 2");
        int[] bySame = {0, 1, 1, 1, 0, 1, 1, 1};
        for (int set = 0; set < 8; set++) {
            s.due("0 to 1 by " + set, one.known(set), byOne[set]);
            s.due("0 to 2 and 1 to 2 by " + set, from.known(set), byFrom[set]);
            s.due("0 to 1 and 0 to 2 by " + set, to.known(set), byTo[set]);
            s.due("0 to 2 by 1 and 1 to 2 by 2, by " + set, unlike.known(set), byUnlike[set]);
            s.due("0 to 2 and 2 to 0 by " + set, across.known(set), byAcross[set]);
            s.due("0 to 1 and 0 to 1 by " + set, same.known(set), bySame[set]);
        }
        from.open(1, false);
        s.due("a SHUT DOOR leaves one that could be", from.known(1), 1);
        from.open(0, false);
        s.due("none could be: by none", from.known(0), 1);
        HeadCounts full = Check.in("rooms 3;door 0 2;door 1 2;head 0 1;head 1 2;most 2 1");
        s.due("one is above what ROOM 2 holds", full.known(1), 1);
    }

    private void watch() {
        s.hold("WATCH: the fewest ROOMS by which they are KNOWN, of several the least as bits.");
        s.due("one, of two the least", Check.in("rooms 3;door 1 2;head 1 1").watch(), 2);
        s.due("two", Check.in("rooms 3;door 0 2;door 1 2;head 0 1;head 1 1").watch(), 3);
        s.due("one, though two are less as bits", Check.in("rooms 3;door 0 2;door 1 2;head 0 1;head 1 2").watch(), 4);
        s.due("none, of no GOINGS", Check.in("rooms 3;head 0 1").watch(), 0);
        s.due("five of six", Check.in("rooms 6;door 0 1;door 0 2;door 0 3;door 0 4;door 0 5;head 0 1").watch(), 31);
        s.due("the last alone", Check.in("rooms 6;door 5 1;door 5 2;door 5 3;head 1 1;head 2 2;head 3 3").watch(), 32);
        s.due("no HEADS", Check.in("rooms 6;door 0 1").watch(), 0);
        String star = "rooms 6;door 0 1;door 0 2;door 0 3;door 0 4;door 0 5;head 0 1;head 0 2;head 0 3;head 0 4;head 0 1;head 0 2";
        s.due("thirty GOINGS", Check.in(star).watch(), 31);
    }

    private void messages() {
        s.hold("MESSAGES of a HEAD in n MINUTES (0 to 12): all others stay (ROOMS hold as they are now with them); in each it goes or "
            + "stays: how many unlike rows of COUNTS of all SENSES there can be.");
        HeadCounts x = Check.in(TWO);
        for (int n = 0; n <= 12; n++) {
            s.due("in " + n, x.messages(0, n), 1 << n);
        }
        s.due("in 13", x.messages(0, 13), -1);
        s.due("felt alike", Check.in("rooms 2;door 0 1;head 0 1;sense 3").messages(0, 12), 1);
        s.due("by no SENSE", Check.in("rooms 2;door 0 1;head 0 1").messages(0, 12), 1);
        HeadCounts line = Check.in(LINE);
        s.due("not felt in one", line.messages(0, 1), 1);
        s.due("in two: felt behind the second, or not", line.messages(0, 2), 2);
        s.due("in three: 000, 001, 010, 011", line.messages(0, 3), 4);
        HeadCounts beside = Check.in("rooms 2;door 0 1;head 0 1;head 1 2;most 1 2;sense 1");
        s.due("another fills ROOM 1", beside.messages(0, 12), 1);
        s.due("it could come back", beside.messages(1, 2), 4);
        HeadCounts full = Check.in("rooms 2;door 0 1;head 0 1;head 0 2;most 0 2;sense 1");
        s.due("ROOM 0 is full without it: it can't come back", full.messages(0, 2), 3);
        s.due("with it, too: it comes back to 1 and 1", full.messages(1, 2), 3);
        s.due("ROOM 0 holds both", Check.in("rooms 2;door 0 1;head 0 1;head 0 1;most 0 2;sense 1").messages(0, 2), 4);
        HeadCounts six = Check.in("rooms 6;door 5 0;door 5 1;door 5 2;door 5 3;door 5 4;head 5 1");
        s.due("by no SENSE in six ROOMS", six.messages(0, 12), 1);
        Check.house(six, "rooms 6;door 5 0;door 5 1;door 5 2;door 5 3;door 5 4;head 5 1;sense 32");
        s.due("by one in another HOUSE", six.messages(0, 12), 4096);
        HeadCounts sides = Check.in("rooms 4;door 0 1;door 0 2;door 0 3;head 0 1;sense 2;sense 4");
        s.due("ROOMS 0 and 3 are felt alike", sides.messages(0, 1), 3);
        s.due("all rows of three, but 1 behind 2 and 2 behind 1", sides.messages(0, 2), 7);
    }

    private void swaps() {
        s.hold("SWAPS: twos of living HEADS in unlike ROOMS with an OPEN DOOR between them that no SENSE would feel if they changed "
            + "places (what ROOMS hold is not asked): how many; of all such twos (felt or not) how many.");
        HeadCounts x = Check.in("rooms 3;door 0 1;head 0 1;head 1 1;head 2 1;head 1 2;sense 1;sense 6");
        s.due("like HALVES: not felt", x.swaps(0), 1);
        s.due("of all by a DOOR", x.swaps(1), 2);
        x.die(1);
        s.due("who lives", x.swaps(0), 0);
        s.due("who lives", x.swaps(1), 1);
        x.open(0, false);
        s.due("SHUT", x.swaps(1), 0);
        HeadCounts y = Check.in("rooms 2;door 0 1;head 0 1;head 1 4;most 0 1;most 1 4;sense 3");
        s.due("unlike HALVES, but ROOMS felt together, and what they hold is not asked", y.swaps(0), 1);
        HeadCounts z = Check.in("rooms 2;door 0 1;head 0 1;head 0 1;head 1 4");
        s.due("in one ROOM they are no two", z.swaps(1), 2);
        HeadCounts six = Check.in("rooms 2;door 0 1" + ";head 0 4".repeat(3) + ";head 1 4".repeat(3) + ";sense 1");
        s.due("three by three", six.swaps(0), 9);
    }
}
