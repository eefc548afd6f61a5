/** Promises 32 to 34: count, image, back. */
public final class ImageTest {
    private static final Check CHECK = new Check("ImageTest");

    public static void main(String[] args) {
        counting();
        imagesOfNothing();
        goingBack();
        undoingBehind();
        CHECK.close();
    }

    private static void counts(String when, HeadCounts x, int... due) {
        for (int what = 0; what < due.length; what++) {
            CHECK.due(when + ": count(" + what + ")", x.count(what), due[what]);
        }
    }

    private static void counting() {
        HeadCounts x = Check.in("rooms 3;door 0 1;door 1 2;head 0 2;head 2 1;head 2 2;sense 1;sense 6;linger 2");
        Check.rule(x, "go 1");
        x.go(0, 1, true);
        x.go(1, 1, false);
        x.die(2);
        x.tell(3, 1, 4);
        x.seed(9);
        Check.feed(x, "rooms");
        counts("all", x, 3, 2, 3, 2, 1, 2, 2, 1, 1, 2, 2, 2, 9, 5);
        CHECK.due("count(14)", x.count(14), -1);
        CHECK.due("count(-1)", x.count(-1), -1);
    }

    private static void imagesOfNothing() {
        HeadCounts x = new HeadCounts();
        CHECK.due("image without a house", x.image(0), 0);
        CHECK.due("image(4)", x.image(4), -1);
        CHECK.due("image(-1)", x.image(-1), -1);
        CHECK.due("back(1) never made", x.back(1), -1);
        CHECK.due("back(4)", x.back(4), -1);
        CHECK.due("back(-1)", x.back(-1), -1);
        Check.house(x, "rooms 2;door 0 1;head 0 1");
        x.rest();
        CHECK.due("image of a house", x.image(3), 1);
        CHECK.due("back to no house", x.back(0), 0);
        counts("no house", x, 0, 0, 0, 0, 0, 0, 0, 0, 0, 0, 0, -1, 0, 0);
        CHECK.due("rest without a house", x.rest(), -1);
        CHECK.due("fits without a house", x.fits(), -1);
        CHECK.due("back to the house", x.back(3), 1);
        CHECK.due("rest", x.rest(), 2);
    }

    private static void goingBack() {
        HeadCounts x = Check.in("rooms 3;door 0 1;door 1 2;head 0 2;head 2 1;sense 1;linger 5;delay 0 1");
        x.seed(3);
        x.tell(2, 0, 2);
        x.go(0, 1, true);
        x.die(1);
        x.open(1, false);
        CHECK.due("image", x.image(2), 1);
        Check.rule(x, "go 0");
        Check.house(x, "rooms 2;head 1 4");
        x.rest();
        x.seed(8);
        CHECK.due("another image", x.image(1), 1);
        Check.feed(x, "go 1");
        CHECK.due("back", x.back(2), 1);
        counts("as it was, but for the TAPE and the RULES", x, 3, 2, 2, 1, 1, 1, 1, 1, 1, 1, 1, 5, 3, 4);
        CHECK.due("its room", x.head(0, 0), 1);
        CHECK.due("the dead", x.head(1, 5), 1);
        CHECK.due("the door", x.door(1, 2), 0);
        CHECK.due("the echo", x.room(0, 0), 2);
        CHECK.due("what was", x.was(1, 1), 0);
        CHECK.due("told", x.fits(), 2);
        x.go(0, 0, false);
        CHECK.due("told from here", x.fits(), 2);
        CHECK.due("back again", x.back(2), 1);
        CHECK.due("its room", x.head(0, 0), 1);
        CHECK.due("back to the other", x.back(1), 1);
        counts("the other", x, 2, 0, 1, 0, 1, 1, 1, 0, 0, 1, 0, 3, 8, 4);
        CHECK.due("made anew", x.image(2), 1);
        CHECK.due("back", x.back(2), 1);
        CHECK.due("rooms", x.count(0), 2);
    }

    private static void undoingBehind() {
        HeadCounts x = Check.in("rooms 2;door 0 1;head 0 1;head 0 2");
        for (int i = 0; i < 23; i++) {
            x.go(0, 1 - i % 2, false);
        }
        x.image(0);
        for (int i = 0; i < 7; i++) {
            x.go(1, 1 - i % 2, false);
        }
        CHECK.due("undo", x.undo(), 19);
        CHECK.due("back", x.back(0), 23);
        CHECK.due("head 1 never went", x.head(1, 4), 0);
        for (int i = 19; i >= 0; i--) {
            CHECK.due("undo", x.undo(), i);
            CHECK.due("head 0 went", x.head(0, 4), i + 3);
        }
        CHECK.due("undo", x.undo(), -1);
        CHECK.due("back", x.back(0), 23);
        CHECK.due("undone is in the image still", x.count(9), 20);
        Check.house(x, "rooms 3");
        CHECK.due("a house", x.count(9), 0);
        CHECK.due("back", x.back(0), 23);
        CHECK.due("undo", x.undo(), 19);
        CHECK.due("head 0 went", x.head(0, 4), 22);
    }
}
