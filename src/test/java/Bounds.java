/** What the tests of boundary cases have in common. */
abstract class Bounds {
    final Sentences s;

    Bounds(Sentences s) {
        this.s = s;
    }

    abstract void hold();

    /** A number that is not 0 to n - 1: beside both ends, and as far off as there are numbers. */
    static int[] outside(int n) {
        return new int[] {-1, n, Integer.MIN_VALUE, Integer.MAX_VALUE};
    }

    static String filled(String text, int length) {
        return text + " ".repeat(length - text.length());
    }

    final void house(String text, int heads) {
        s.due("house '" + text + "'", Check.house(new HeadCounts(), text), heads);
    }

    final void houseFault(String text, int place, int why) {
        s.due("house '" + text + "'", Check.house(new HeadCounts(), text), Check.fault(place, why));
    }

    final void rule(String text) {
        s.due("rule '" + text + "'", Check.rule(new HeadCounts(), text), 0);
    }

    final void ruleFault(String text, int place, int why) {
        s.due("rule '" + text + "'", Check.rule(new HeadCounts(), text), Check.fault(place, why));
    }

    /** Where the first head of a house would go by a rule. */
    final void would(String house, String rule, int due) {
        HeadCounts x = Check.in(house);
        s.due("rule '" + rule + "'", Check.rule(x, rule), 0);
        s.due("would by '" + rule + "'", x.would(0, 0), due);
    }

    /** A call that is refused: its answer, and that nothing else has changed. */
    final void refused(String call, Twins.Calls made, Twins.Call refused, long due) {
        HeadCounts x = new HeadCounts();
        made.on(x);
        s.due(call, refused.of(x), due);
        s.due(call + " changed something", Twins.differ(made, refused), false);
    }
}
