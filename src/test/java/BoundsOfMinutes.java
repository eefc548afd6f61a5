/** Part II of the terms: what counts, what a minute is, what it leaves behind, and what can be undone. */
final class BoundsOfMinutes extends Bounds {
    private static final String TWO = "rooms 2;door 0 1;head 0 1";

    BoundsOfMinutes(Sentences s) {
        super(s);
    }

    @Override
    void hold() {
        counts();
        countsAgo();
        felt();
        going();
        lastMinute();
        echoes();
        sixEchoes();
        dying();
        doors();
        byRule();
        undone();
    }

    private static void rest(HeadCounts x, int minutes) {
        for (int i = 0; i < minutes; i++) {
            x.rest();
        }
    }

    private void counts() {
        s.hold("COUNT of a ROOM: HALVES of all HEADS in it that live, or are dead and count still, and of all ECHOES there.");
        HeadCounts x = Check.in("rooms 3;door 0 1;head 0 1;head 0 2;head 0 4;linger 2");
        s.due("three live", x.room(0, 0), 7);
        s.due("an empty ROOM", x.room(1, 0), 0);
        x.die(1);
        s.due("one is dead and counts still", x.room(0, 0), 7);
        x.go(2, 1, true);
        s.due("one is an ECHO", x.room(0, 0), 7);
        s.due("it lives there", x.room(1, 0), 4);
        x.rest();
        s.due("the dead counts no more", x.room(0, 0), 5);
        x.rest();
        s.due("nor does the ECHO", x.room(0, 0), 1);
        s.due("who lives does", x.room(1, 0), 4);
    }

    private void countsAgo() {
        s.hold("The COUNT of so many MINUTES ago: as it stood when that MINUTE had gone by (0: as it is now; ahead of MINUTE 0: "
            + "as at first).");
        HeadCounts x = Check.in("rooms 2;door 0 1;head 0 1;head 0 2;linger 0;delay 0 5");
        x.go(0, 1, false);
        x.die(1);
        s.due("0: as it is now", x.was(0, 0), 0);
        s.due("as at first", x.was(0, 1), 3);
        x.rest();
        s.due("when MINUTE 1 had gone by, ahead of what was by hand", x.was(0, 1), 2);
        s.due("MINUTE 0", x.was(0, 2), 3);
        for (int minute = 2; minute < 6; minute++) {
            s.due("ahead of MINUTE 0, or just then: as at first", x.room(0, 1), 3);
            x.rest();
        }
        s.due("MINUTE 1", x.room(0, 1), 2);
        x.rest();
        s.due("MINUTE 2", x.room(0, 1), 0);
        HeadCounts undone = Check.in("rooms 2;door 0 1;head 0 1");
        undone.go(0, 1, false);
        rest(undone, 10);
        undone.undo();
        s.due("nine ago, behind one more that was UNDONE", undone.was(0, 9), 0);
        undone.undo();
        s.due("and behind two", undone.was(0, 9), 1);
        HeadCounts y = Check.in("rooms 2;head 0 3;linger 0;delay 0 1");
        y.die(0);
        s.due("ahead of MINUTE 0, though by hand it is not so now", y.room(0, 1), 3);
    }

    private void felt() {
        s.hold("FELT of a ROOM: its COUNT of as many MINUTES ago as its DELAY is; of a SENSE that of its ROOMS together.");
        for (int delay = 0; delay <= 5; delay++) {
            HeadCounts x = Check.in("rooms 3;door 0 1;head 0 3;head 2 2;sense 5;sense 2;sense 7;delay 0 " + delay);
            x.go(0, 1, false);
            for (int ago = 0; ago < delay; ago++) {
                s.due("left " + ago + " ago, DELAY " + delay, x.room(0, 1), 3);
                s.due("with another ROOM", x.sense(0, 1), 5);
                s.due("in both", x.sense(2, 1), 8);
                x.rest();
            }
            s.due("left " + delay + " ago, DELAY " + delay, x.room(0, 1), 0);
            s.due("the other ROOM alone", x.sense(0, 1), 2);
            s.due("of one ROOM", x.sense(1, 1), 3);
            s.due("in one", x.sense(2, 1), 5);
        }
    }

    private void going() {
        s.hold("In a MINUTE one HEAD that lives goes through an OPEN DOOR of its ROOM to the other ROOM, if the COUNT there with "
            + "it is not above what that ROOM holds; or nobody goes.");
        HeadCounts x = Check.in("rooms 3;door 1 0;door 1 2;head 0 2;head 0 2;head 1 1;most 1 3");
        s.due("no DOOR of its ROOM", x.go(0, 2, false), -1);
        s.due("to its own ROOM", x.go(0, 0, false), -1);
        s.due("just what it holds", x.go(0, 1, false), 1);
        s.due("above it", x.go(1, 1, false), -1);
        s.due("the other way", x.go(2, 0, false), 2);
        s.due("3 there would be 4 with it", x.go(1, 1, false), -1);
        s.due("just what it holds again", x.go(2, 1, false), 3);
        s.due("nobody goes", x.rest(), 4);
        s.due("so nobody went", x.count(10), 3);
        x.open(1, false);
        s.due("SHUT", x.go(0, 2, false), -1);
        x.open(1, true);
        s.due("OPEN", x.go(0, 2, false), 5);
        x.die(2);
        s.due("it does not live", x.go(2, 0, false), -1);
        s.due("the dead fill what it holds", x.go(1, 1, false), 6);
        s.due("and above it", x.go(0, 1, false), -1);
        HeadCounts y = Check.in("rooms 2;door 0 1;head 0 2;head 1 2;most 0 3;linger 1");
        y.go(0, 1, true);
        s.due("an ECHO fills it", y.go(1, 0, false), -1);
        y.rest();
        s.due("as long as it counts", y.go(1, 0, false), 3);
    }

    private void lastMinute() {
        s.hold("Then MINUTE is one more (9999 at most).");
        HeadCounts x = Check.in(TWO);
        s.due("one more", x.go(0, 1, false), 1);
        s.due("one more", x.rest(), 2);
        Check.rule(x, "go 99");
        for (int i = 0; i < 166; i++) {
            x.run(0, 60);
        }
        s.due("MINUTE", x.run(0, 36), 9998);
        s.due("to 9999", x.go(0, 0, false), 9999);
        s.due("no further", x.go(0, 1, false), -1);
        s.due("no further", x.rest(), -1);
        s.due("no further", x.run(0, 1), -1);
        x.undo();
        s.due("from 9998 again", x.rest(), 9999);
        x.undo();
        s.due("from 9998 again", x.run(0, 1), 9999);
        s.due("MINUTE", x.count(5), 9999);
    }

    private void echoes() {
        s.hold("Who goes BACKWARDS leaves an ECHO in the ROOM left: its HALVES count there, too, till MINUTE is linger more than "
            + "it is by now (that one more counted): as long as MINUTE is less than that");
        for (int linger = 1; linger <= 9; linger++) {
            HeadCounts x = Check.in("rooms 2;door 0 1;head 0 3;linger " + linger);
            rest(x, linger);
            x.go(0, 1, true);
            for (int i = 0; i < linger; i++) {
                s.due("MINUTE " + i + " of " + linger, x.room(0, 0), 3);
                s.due("one ECHO", x.count(7), 1);
                s.due("it counts in the other, too", x.room(1, 0), 3);
                x.rest();
            }
            s.due("as many more as linger is " + linger, x.room(0, 0), 0);
            s.due("no ECHO", x.count(7), 0);
        }
        HeadCounts unlike = Check.in("rooms 3;door 0 1;door 1 2;head 0 1;head 1 2;head 2 4;linger 2");
        unlike.go(0, 1, true);
        unlike.go(1, 2, true);
        s.due("1 in ROOM 0", unlike.room(0, 0), 1);
        s.due("2 in ROOM 1, and who went there", unlike.room(1, 0), 3);
        unlike.go(2, 1, true);
        s.due("the first is gone", unlike.room(0, 0), 0);
        s.due("2 in ROOM 1 still", unlike.room(1, 0), 7);
        s.due("4 in ROOM 2", unlike.room(2, 0), 6);
        unlike.rest();
        s.due("the second is gone", unlike.room(1, 0), 5);
        s.due("the third is not", unlike.room(2, 0), 6);
        HeadCounts y = Check.in(TWO);
        y.go(0, 1, false);
        s.due("forwards", y.count(7), 0);
        s.due("forwards", y.room(0, 0), 0);
    }

    private void sixEchoes() {
        s.hold(" (6 ECHOES at most that count still by now; of more none is left behind; with linger 0 none is).");
        HeadCounts x = Check.in("rooms 2;door 0 1;head 0 1;linger 7");
        for (int i = 1; i <= 8; i++) {
            x.go(0, i % 2, true);
            s.due("ECHOES behind " + i, x.count(7), Math.min(i, 6));
            s.due("in ROOM 0", x.room(0, 0) + i % 2, i == 8 ? 3 : Math.min((i + 1) / 2, 3) + 1);
        }
        s.due("the seventh was not left: from MINUTE 8 on those of 2 to 6, and the eighth", x.room(1, 0), 4);
        HeadCounts y = Check.in("rooms 2;door 0 1;head 0 1;linger 6");
        for (int i = 1; i <= 6; i++) {
            y.go(0, i % 2, true);
        }
        s.due("six", y.count(7), 6);
        y.go(0, 1, true);
        s.due("the first counts no more by now, so the seventh is left", y.count(7), 6);
        y.rest();
        s.due("and another is gone", y.count(7), 5);
        HeadCounts z = Check.in(TWO + ";linger 0");
        s.due("it goes, though", z.go(0, 1, true), 1);
        s.due("none with linger 0", z.count(7), 0);
        s.due("none with linger 0", z.room(0, 0), 0);
    }

    private void dying() {
        s.hold("One DIES: it goes no more, and counts as long as MINUTE is less than linger more than it is now (with 0 no more "
            + "at once).");
        for (int linger = 0; linger <= 9; linger++) {
            HeadCounts x = Check.in("rooms 2;door 0 1;head 1 3;head 0 1;linger " + linger);
            rest(x, 2);
            s.due("DIES", x.die(0), true);
            s.due("it goes no more", x.go(0, 0, false), -1);
            for (int i = 0; i < linger; i++) {
                s.due("dead and counted " + i + " behind, of " + linger, x.head(0, 5), 1);
                s.due("COUNT", x.room(1, 0), 3);
                x.rest();
            }
            s.due("dead with linger " + linger, x.head(0, 5), 2);
            s.due("no COUNT", x.room(1, 0), 0);
            s.due("another lives", x.head(1, 5), 0);
        }
    }

    private void doors() {
        s.hold("A DOOR is OPENED or SHUT. (No MINUTE goes by.)");
        HeadCounts x = Check.in("rooms 3;door 0 1;door 1 2;head 0 1");
        s.due("SHUT", x.open(0, false), true);
        s.due("it is", x.door(0, 2), 0);
        s.due("the other is not", x.door(1, 2), 1);
        s.due("by ROOMS", x.room(1, 5), 4);
        s.due("OPENED", x.open(0, true), true);
        s.due("it is", x.door(0, 2), 1);
        s.due("by ROOMS", x.room(1, 5), 5);
        s.due("DIES", x.die(0), true);
        s.due("no MINUTE", x.count(5), 0);
        s.due("nothing to be UNDONE", x.count(9), 0);
    }

    private void byRule() {
        s.hold("BY A RULE n MINUTES: in each the least HEAD that lives goes for which the SUM of its first CLAUSE without a TEST, "
            + "or whose TEST holds, is a ROOM to which it could go; none: nobody.");
        HeadCounts x = Check.in("rooms 3;door 0 1;door 1 2;head 0 2;head 0 1;head 0 1;most 1 2");
        s.due("rule", Check.rule(x, "go 2 if at = 1;go 1 if head > 0 and at = 0"), 0);
        x.die(1);
        s.due("MINUTE", x.run(0, 1), 1);
        s.due("not HEAD 0, for which no TEST holds", x.head(0, 4), 0);
        s.due("not HEAD 1, which is dead", x.head(1, 4), 0);
        s.due("HEAD 2", x.head(2, 0), 1);
        s.due("rule", Check.rule(x, "go 1;go 2 if at = 1"), 1);
        s.due("the first CLAUSE alone, without a TEST", x.would(1, 2), -2);
        s.due("above what it holds", x.would(1, 0), -2);
        s.due("MINUTE", x.run(1, 2), 3);
        s.due("nobody could", x.count(10), 1);
        s.due("MINUTE", x.run(0, 1), 4);
        s.due("HEAD 2 goes on", x.head(2, 0), 2);
        s.due("rule", Check.rule(x, "go 0-1 if at = 0;go 1"), 2);
        s.due("no ROOM, and no other CLAUSE", x.would(2, 0), -2);
        s.due("the first whose TEST holds", x.would(2, 2), 1);
        s.due("rule", Check.rule(x, "go 65536*65536+1 if at = 0;go 3 if at = 1;go 1"), 3);
        s.due("no ROOM by a SUM of more bits", x.would(3, 0), -2);
        HeadCounts y = Check.in("rooms 2;door 0 1;head 0 1;head 0 1");
        Check.rule(y, "go 1 - at");
        y.run(0, 3);
        s.due("each time the least", y.head(0, 4), 3);
        s.due("forwards", y.count(7), 0);
        s.due("not the next", y.head(1, 4), 0);
    }

    private void undone() {
        s.hold("The last 20 MINUTES (and what was by hand between) can be UNDONE, the last first: all is as ahead of it (what was "
            + "opened, shut, who died since, too).");
        HeadCounts x = Check.in("rooms 3;door 0 1;door 1 2;head 0 1;head 0 2");
        x.open(1, false);
        x.go(0, 1, true);
        x.open(0, false);
        x.open(1, true);
        x.die(1);
        x.rest();
        s.due("the last first", x.undo(), 1);
        s.due("what was by hand between is as it was then", x.head(1, 5), 1);
        s.due("SHUT then", x.door(0, 2), 0);
        s.due("all of it", x.undo(), 0);
        s.due("it lives", x.head(1, 5), 0);
        s.due("OPEN", x.door(0, 2), 1);
        s.due("SHUT ahead of the first", x.door(1, 2), 0);
        s.due("no ECHO", x.count(7), 0);
        s.due("its ROOM", x.head(0, 0), 0);
        s.due("it came from none", x.head(0, 3), -1);
        s.due("none more", x.undo(), -1);
        HeadCounts ways = Check.in("rooms 3;door 0 1;door 1 2;head 0 1;head 2 2;linger 9");
        ways.go(0, 1, true);
        ways.go(1, 1, true);
        ways.go(0, 2, true);
        ways.undo();
        s.due("it came from 0", ways.head(0, 3), 0);
        s.due("the ECHO of the first", ways.room(0, 0), 1);
        s.due("the ECHO of the second", ways.room(2, 0), 2);
        s.due("no third", ways.count(7), 2);
        HeadCounts shift = Check.in("rooms 3;door 0 1;door 1 2;head 0 1;head 2 2;linger 2");
        shift.go(0, 1, true);
        shift.go(1, 1, true);
        shift.rest();
        s.due("the first ECHO is gone", shift.room(0, 0), 0);
        shift.undo();
        s.due("and there again", shift.room(0, 0), 1);
        s.due("beside the second", shift.room(2, 0), 2);
        shift.die(1);
        s.due("the first when all are counted anew", shift.room(0, 0), 1);
        s.due("the second when all are counted anew", shift.room(2, 0), 2);
        HeadCounts y = Check.in("rooms 2;door 0 1;head 0 1;delay 1 5");
        for (int i = 0; i < 21; i++) {
            s.due("MINUTE", y.go(0, 1 - i % 2, false), i + 1);
            s.due("20 at most", y.count(9), Math.min(i + 1, 20));
        }
        for (int left = 19; left >= 0; left--) {
            s.due("UNDONE", y.undo(), left);
            s.due("MINUTE", y.count(5), left + 1);
            s.due("how often it went", y.head(0, 4), left + 1);
        }
        s.due("not the 21st", y.undo(), -1);
        s.due("FELT as it was", y.room(1, 1), 0);
        s.due("COUNT as it was", y.was(0, 1), 1);
    }
}
