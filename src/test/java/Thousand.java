/** Thefts of HEAD 0 about the thousandth SITUATION, as another program found them by trying all goings of one and two. */
final class Thousand {
    private static final String IN_1000 = "rooms 6;door 5 1;door 0 2;door 1 4;door 3 1;door 2 1;door 3 5;head 4 3;head 4 4;head 5 2;"
        + "head 1 3;head 4 1;head 1 2;most 2 8;most 1 2;most 2 7";
    private static final String IN_1001 = "rooms 6;door 3 0;door 0 1;door 2 1;door 5 0;door 4 1;head 5 3;head 3 4;head 0 4;head 2 1;"
        + "head 1 2;head 3 2;most 0 3;most 1 5;most 1 2";
    private static final String BEHIND_999 = "rooms 6;door 0 1;door 0 4;door 1 3;door 1 4;door 2 3;head 2 3;head 1 4;head 0 3;"
        + "head 0 2;head 5 4;head 0 1;most 1 8;most 4 8;most 5 7;sense 32";
    private static final String BEHIND_1000 = "rooms 6;door 3 2;door 0 2;door 5 0;door 0 1;head 1 2;head 0 1;head 2 3;head 0 1;"
        + "head 4 1;head 0 1;most 3 5;most 2 3;most 4 6";
    private static final String BEHIND_1001 = "rooms 6;door 3 1;door 5 0;door 4 5;door 2 3;door 0 3;head 2 2;head 0 2;head 3 3;"
        + "head 3 1;most 5 5;most 0 8;most 0 6";

    static final Thousand[] ALL = {
        new Thousand("1000 come in all", IN_1000, 0, -2, -2),
        new Thousand("1001 would come", IN_1001, 1, -3, -3),
        new Thousand("999 come ahead of it", BEHIND_999, 0, 3, 4),
        new Thousand("1000 come ahead of it", BEHIND_1000, 3, 3, 4),
        new Thousand("the 1001st would come ahead of it", BEHIND_1001, 4, -3, -3)};

    final String what;
    final String house;
    final int room;
    final int minutes;
    final int goings;

    private Thousand(String what, String house, int room, int minutes, int goings) {
        this.what = what;
        this.house = house;
        this.room = room;
        this.minutes = minutes;
        this.goings = goings;
    }
}
