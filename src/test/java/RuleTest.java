/** Promise 5: rule, and the language of rules with its faults. */
public final class RuleTest {
    private static final Check CHECK = new Check("RuleTest");

    public static void main(String[] args) {
        signs();
        deep();
        many();
        six();
        CHECK.close();
    }

    private static void fault(String text, int place, int why) {
        HeadCounts x = new HeadCounts();
        CHECK.due("rule '" + text + "'", Check.rule(x, text), Check.fault(place, why));
        CHECK.due("rules behind '" + text + "'", x.count(4), 0);
        CHECK.due("tape behind '" + text + "'", x.count(13), 0);
    }

    private static void fine(String text) {
        CHECK.due("rule '" + text + "'", Check.rule(new HeadCounts(), text), 0);
    }

    private static void signs() {
        fault("", 0, 0);
        fault("go", 2, 0);
        fault("go ", 3, 0);
        fault("goes 1", 0, 0);
        fault("gox", 0, 0);
        fault("rooms 2", 0, 0);
        fault("go x", 3, 0);
        fault("go rooms", 3, 0);
        fault("go 1;", 5, 0);
        fault("go 1 1", 5, 0);
        fault("go 1 at", 5, 0);
        fault("go 1 if", 7, 0);
        fault("go 1 if at", 10, 0);
        fault("go 1 if at =", 12, 0);
        fault("go 1 if at < = 2", 13, 0);
        fault("go 1 if at == 2", 12, 0);
        fault("go 1 if at =< 2", 12, 0);
        fault("go 1 if at = 1 if at = 1", 15, 0);
        fault("go 1 if at = 1 and", 18, 0);
        fault("go 1 if at = 1 or ;", 18, 0);
        fault("go 1 if at = 1 = 1", 15, 0);
        fault("go few if at = 1]", 16, 0);
        fault("go few if [at = 1", 17, 0);
        fault("go few if [at] = 1", 13, 0);
        fault("go few if []", 11, 0);
        fault("go few if not", 13, 0);
        fault("go few if notat = 1", 10, 0);
        fault("go few if not at", 16, 0);
        fault("go -1", 3, 0);
        fault("go 1+", 5, 0);
        fault("go 1+*2", 5, 0);
        fault("go [1]", 3, 0);
        fault("go 123456", 3, 1);
        fault("go 1+000001", 5, 1);
        fault("go 1 if 1 < 123456", 12, 1);
        fault("go 1 if At = 1", 8, 0);
        fine("go 1");
        fine("go1");
        fine("go 1" + " ".repeat(396));
        fine("go 1 if" + " ".repeat(390) + "1=1");
        fault(";".repeat(400), 0, 0);
        fault("go 1 if" + " ".repeat(391) + "1=", 400, 0);
        fine(" go 99999 ; go few if at<=1 and not at>=2 or[here>least]");
        fine("go head+halves-at*home/came+here+few+crowd+least+greatest+gone+minute");
        fine("go 1if at=1and at<2or at>3");
    }

    private static void deep() {
        String ten = "go 1 if " + "[".repeat(10) + "1=1" + "]".repeat(10);
        fine(ten);
        fault("go 1 if " + "[".repeat(11) + "1=1" + "]".repeat(11), 18, 2);
        fine("go 1 if " + "not ".repeat(10) + "1=1");
        fault("go 1 if " + "not ".repeat(11) + "1=1", 48, 2);
        fault("go 1 if " + "not[".repeat(5) + " not 1=1", 29, 2);
        fault("go 1 if " + "not[".repeat(5) + "[", 28, 2);
        fine("go 1 if " + "not[".repeat(5) + "1=1" + "]".repeat(5) + " and " + "[".repeat(10) + "1=1" + "]".repeat(10));
    }

    private static void many() {
        fine("go 1" + "+1".repeat(59));
        fault("go 1" + "+1".repeat(60), 123, 3);
        fault("go 1" + "+1".repeat(59) + "+123456", 123, 1);
        fault("go 1" + "+1".repeat(59) + "+if", 123, 0);
        fault("go 1" + "+1".repeat(59) + "+at", 123, 3);
        fine("go 1" + "+1".repeat(56) + " if 1 < 1");
        fault("go 1" + "+1".repeat(57) + " if 1 < 1", 126, 3);
        fault("go 1" + "+1".repeat(58) + " if 1 < 1", 126, 3);
        fault("go 1" + "+1".repeat(59) + " if 1 < 1", 126, 3);
        fine("go 1;" + "go 1 if 1=1;".repeat(10) + "go 1");
        fault("go 1" + ";go 1".repeat(12), 60, 4);
        fault("go 1" + ";go 1".repeat(11) + ";", 60, 0);
        fault("go 1" + ";go 1".repeat(11) + ";if", 60, 0);
        fine("go 1" + ";go 1".repeat(11));
        fault("go 1;" + "go 1 if 1=1;".repeat(10) + "go 1" + "+1".repeat(18) + " if 1=1", 169, 3);
    }

    private static void six() {
        HeadCounts x = new HeadCounts();
        for (int i = 0; i < 6; i++) {
            CHECK.due("rule " + i, Check.rule(x, "go " + i), i);
            CHECK.due("count(4)", x.count(4), i + 1);
        }
        Check.feed(x, "go 1");
        CHECK.due("a seventh", x.rule(), -1);
        CHECK.due("its tape stays", x.count(13), 4);
        Check.house(x, "rooms 2;door 0 1;head 0 1");
        CHECK.due("rules stay in a house", x.count(4), 6);
        CHECK.due("rule 6 would", x.would(6, 0), -1);
        CHECK.due("rule 6 runs", x.run(6, 1), -1);
        CHECK.due("rule 0 would", x.would(0, 0), -2);
        CHECK.due("rule 1 would", x.would(1, 0), 1);
    }
}
