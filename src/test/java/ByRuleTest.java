/** Promises 16 and 17: run and would, and what words, sums and tests of rules are. */
public final class ByRuleTest {
    private static final Check CHECK = new Check("ByRuleTest");
    /** Every room has a door to room 0, so that a sum can be read off as a room. */
    private static final String STAR = "rooms 6;door 0 1;door 0 2;door 0 3;door 0 4;door 0 5;head 0 3";

    public static void main(String[] args) {
        sums();
        tests();
        words();
        clauses();
        running();
        wrong();
        CHECK.close();
    }

    private static int would(String house, String rule) {
        HeadCounts x = Check.in(house);
        int number = Check.rule(x, rule);
        if (number != 0) {
            throw new IllegalStateException(rule + " has a fault: " + number);
        }
        return x.would(0, 0);
    }

    private static void sum(String sum, int due) {
        CHECK.due(sum, would(STAR, "go " + sum), due);
    }

    private static void test(String test, boolean due) {
        CHECK.due(test, would(STAR, "go 1 if " + test) == 1, due);
    }

    private static void sums() {
        sum("1+2*2", 5);
        sum("9-3-2", 4);
        sum("9-3+2-7", 1);
        sum("8/2/2", 2);
        sum("8/3*2", 4);
        sum("2*3/4", 1);
        sum("7/0+3", 3);
        sum("0-7/2+8", 5);
        sum("7/2*1", 3);
        test("0-7 < 0 and 0-3 = 0-7/2", true);
        String round = "65536*65536*65536*32768";
        test(round + " < 0 and " + round + " - 1 > 0", true);
        test(round + "/60000*60000 > " + round, true);
        sum("5", 5);
        sum("6", -2);
        sum("0", -2);
        sum("0-1", -2);
        sum("99999", -2);
        sum("65536*65536*4+1", -2);
        sum("65536*65536*65536*65536+1", 1);
    }

    private static void tests() {
        test("1 < 2", true);
        test("2 < 2", false);
        test("2 <= 2", true);
        test("3 <= 2", false);
        test("2 = 2", true);
        test("2 = 3", false);
        test("2 >= 2", true);
        test("1 >= 2", false);
        test("3 > 2", true);
        test("2 > 2", false);
        test("1=1 or 1=1 and 1=2", true);
        test("[1=1 or 1=1] and 1=2", false);
        test("1=2 and 1=1 or 1=1", true);
        test("1=2 and [1=1 or 1=1]", false);
        test("1=2 or 1=2 or 1=1", true);
        test("1=2 or 1=2 or 1=3", false);
        test("1=1 and 1=1 and 1=2", false);
        test("not 1=2 and 1=2", false);
        test("not [1=2 and 1=2]", true);
        test("not not 1=1", true);
        test("not 1=1 or 1=1", true);
    }

    /** A house in which all words of head 1 are unlike, asked by a rule that goes to room 5 if it is so. */
    private static void words() {
        HeadCounts x = Check.in("rooms 6;door 2 3;door 3 0;door 3 1;door 3 4;door 3 5;head 4 4;head 2 3;head 0 2;head 5 1;head 1 2;most 4 6;delay 3 1");
        int asked = 0;
        for (String all : new String[] {"head=1 and halves=3 and at=2 and home=2 and came=99 and here=3 and gone=0 and minute=0",
            "few=3 and crowd=3 and least=0 and greatest=0"}) {
            CHECK.due("rule", Check.rule(x, "go 3 if " + all), asked);
            CHECK.due(all, x.would(asked, 1), 3);
            asked++;
        }
        x.go(1, 3, false);
        for (String all : new String[] {"head=1 and halves=3 and at=3 and home=2 and came=2 and here=0 and gone=1 and minute=1",
            "few=2 and crowd=0 and least=0 and greatest=2"}) {
            CHECK.due("rule", Check.rule(x, "go 5 if " + all), asked);
            CHECK.due(all, x.would(asked, 1), 5);
            asked++;
        }
        x.open(0, false);
        Check.rule(x, "go few if crowd = 0 and least = 1 and greatest = 2");
        CHECK.due("few behind a door shut", x.would(asked, 1), 5);
        for (int door = 1; door < 5; door++) {
            x.open(door, false);
        }
        CHECK.due("no room", x.would(asked, 1), -2);
        x.open(4, true);
        Check.rule(x, "go 5 if few = 5;go 5 if few=99");
        CHECK.due("one room", x.would(5, 1), 5);
        HeadCounts y = Check.in("rooms 2;door 0 1;head 0 2;head 1 1");
        Check.rule(y, "go 1 if few=99 and crowd=99 and least=0 and greatest=0");
        y.open(0, false);
        CHECK.due("none to go to", y.would(0, 0), -2);
        Check.rule(y, "go few;go 1");
        CHECK.due("the first clause alone", y.would(1, 0), -2);
    }

    private static void clauses() {
        CHECK.due("the first that holds", would(STAR, "go 1 if 1=2;go 2 if 1=1;go 3"), 2);
        CHECK.due("the first without a test", would(STAR, "go 1 if 1=2;go 3;go 2 if 1=1"), 3);
        CHECK.due("none", would(STAR, "go 1 if 1=2;go 2 if 1=3"), -2);
        CHECK.due("the first alone, though it can't", would(STAR, "go 0;go 2"), -2);
        CHECK.due("what a room holds", would("rooms 2;door 0 1;head 0 3;most 1 2", "go 1"), -2);
        CHECK.due("none to go to", would("rooms 2;head 0 3", "go 1 if few=99 and crowd=99 and least=0 and greatest=0"), -2);
        HeadCounts x = Check.in("rooms 3;door 0 1;head 0 1;head 0 1");
        Check.rule(x, "go few if few < 99;go head + 1");
        CHECK.due("of the second head for itself", x.would(0, 1), 1);
    }

    private static void running() {
        HeadCounts x = Check.in("rooms 3;door 0 1;door 1 2;head 0 2;head 0 1;head 2 3;most 1 3");
        Check.rule(x, "go 1 if at = 0 and gone = 0;go 2 if at = 1");
        CHECK.due("run", x.run(0, 1), 1);
        CHECK.due("the least head", x.head(0, 0), 1);
        CHECK.due("run", x.run(0, 1), 2);
        CHECK.due("the least head again", x.head(0, 0), 2);
        CHECK.due("run", x.run(0, 3), 5);
        CHECK.due("the next head", x.head(1, 0), 2);
        CHECK.due("then nobody", x.count(10), 4);
        CHECK.due("each can be undone", x.count(9), 5);
        x.undo();
        x.undo();
        CHECK.due("undone", x.head(1, 0), 1);
        CHECK.due("goes again", x.run(0, 1), 4);
        CHECK.due("there", x.head(1, 0), 2);
        HeadCounts y = Check.in("rooms 2;door 0 1;head 0 1;head 0 2");
        Check.rule(y, "go 1 - at");
        y.die(0);
        CHECK.due("who does not live goes not", y.run(0, 1), 1);
        CHECK.due("but the next", y.head(1, 0), 1);
        CHECK.due("60", y.run(0, 60), 61);
        CHECK.due("there and back", y.head(1, 0), 1);
        CHECK.due("20 at most", y.count(9), 20);
    }

    private static void wrong() {
        HeadCounts x = new HeadCounts();
        Check.rule(x, "go 1");
        CHECK.due("no house", x.run(0, 1), -1);
        CHECK.due("no house", x.would(0, 0), -1);
        Check.house(x, "rooms 2;door 0 1;head 0 1");
        CHECK.due("no rule", x.run(1, 1), -1);
        CHECK.due("no rule", x.run(-1, 1), -1);
        CHECK.due("0 minutes", x.run(0, 0), -1);
        CHECK.due("61 minutes", x.run(0, 61), -1);
        CHECK.due("no rule", x.would(1, 0), -1);
        CHECK.due("no rule", x.would(-1, 0), -1);
        CHECK.due("no head", x.would(0, 1), -1);
        CHECK.due("no head", x.would(0, -1), -1);
        CHECK.due("nothing happened", x.count(5), 0);
        x.die(0);
        CHECK.due("it does not live", x.would(0, 0), -1);
    }
}
