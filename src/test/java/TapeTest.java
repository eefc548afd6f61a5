/** Promises 1 to 3: a new object, feed, end. */
public final class TapeTest {
    public static void main(String[] args) {
        Check check = new Check("TapeTest");
        newObject(check);
        feeding(check);
        ending(check);
        bytesOfNumbers(check);
        check.close();
    }

    private static void newObject(Check check) {
        HeadCounts x = new HeadCounts();
        check.due("NONE", HeadCounts.NONE, -1);
        for (int what = 0; what <= 13; what++) {
            check.due("count(" + what + ") of a new object", x.count(what), what == 11 ? -1 : 0);
        }
        check.due("room(0, 0)", x.room(0, 0), -1);
        check.due("head(0, 0)", x.head(0, 0), -1);
        check.due("door(0, 2)", x.door(0, 2), -1);
        check.due("sense(0, 0)", x.sense(0, 0), -1);
        check.due("was(0, 0)", x.was(0, 0), -1);
        check.due("go(0, 0)", x.go(0, 0, false), -1);
        check.due("rest()", x.rest(), -1);
        check.due("die(0)", x.die(0), false);
        check.due("open(0)", x.open(0, false), false);
        check.due("undo()", x.undo(), -1);
        check.due("run(0, 1)", x.run(0, 1), -1);
        check.due("would(0, 0)", x.would(0, 0), -1);
        check.due("tell(0, 0, 0)", x.tell(0, 0, 0), -2);
        check.due("tell(-1, 0, 0)", x.tell(-1, 0, 0), 0);
        check.due("fits()", x.fits(), -1);
        check.due("who(0)", x.who(0), -1);
        check.due("first()", x.first(), -1);
        check.due("next(1)", x.next(1), -1);
        check.due("known(0)", x.known(0), -1);
        check.due("watch()", x.watch(), -1);
        check.due("secret(0, 1, 0)", x.secret(0, 1, 0), -1);
        check.due("theft(0, 1, 0)", x.theft(0, 1, 0), -1);
        check.due("gather(0, 0, 0)", x.gather(0, 0, 0), -1);
        check.due("messages(0, 0)", x.messages(0, 0), -1);
        check.due("swaps(0)", x.swaps(0), -1);
        check.due("nights", x.nights(1, 1, 0, 0, 0), -1);
        check.due("back(0)", x.back(0), -1);
    }

    private static void feeding(Check check) {
        HeadCounts x = new HeadCounts();
        for (int i = 1; i <= 20; i++) {
            check.due("feed " + i, x.feed(i, i, i, i, i), 20 * i);
        }
        check.due("feed above 400", x.feed(1, 1, 1, 1, 1), -1);
        check.due("count(13) behind it", x.count(13), 400);
        x.end(381);
        check.due("feed from 381", x.feed(1, 1, 1, 1, 1), -1);
        x.end(380);
        check.due("feed from 380", x.feed(1, 1, 1, 1, 1), 400);
    }

    private static void ending(Check check) {
        HeadCounts x = new HeadCounts();
        check.due("end(0) of nothing", x.end(0), 0);
        check.due("end(1) of nothing", x.end(1), -1);
        x.feed(0, 0, 0, 0, 0);
        check.due("end(21) of 20", x.end(21), -1);
        check.due("end(-1)", x.end(-1), -1);
        check.due("count(13)", x.count(13), 20);
        check.due("end(20)", x.end(20), 20);
        check.due("end(7)", x.end(7), 7);
        check.due("end(8) of 7", x.end(8), -1);
        check.due("feed behind 7", x.feed(0, 0, 0, 0, 0), 27);
    }

    /** "rooms 2;head 1 4   " by hand: the highest byte of each number is the first. */
    private static void bytesOfNumbers(Check check) {
        HeadCounts x = new HeadCounts();
        check.due("feed", x.feed(0x726f6f6d, 0x7320323b, 0x68656164, 0x20312034, 0x20202020), 20);
        check.due("house()", x.house(), 1);
        check.due("head(0, 0)", x.head(0, 0), 1);
        check.due("head(0, 1)", x.head(0, 1), 4);
        check.due("count(13)", x.count(13), 0);
        check.due("feed of a byte above 127", x.feed(0xff6f6f6d, 0, 0, 0, 0), 20);
        check.due("house() of it", x.house(), Check.fault(0, 0));
    }
}
