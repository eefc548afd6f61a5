/** Promises 30 and 31: seed and nights. */
public final class DrawsTest {
    private static final Check CHECK = new Check("DrawsTest");

    public static void main(String[] args) {
        seeds();
        nightsByHand();
        nightsFelt();
        wrong();
        CHECK.close();
    }

    private static void seeds() {
        HeadCounts x = new HeadCounts();
        CHECK.due("0 at first", x.seed(5), 0);
        CHECK.due("what it was", x.seed(2147483647), 5);
        CHECK.due("below 0", x.seed(-1), -1);
        CHECK.due("below 0", x.seed(-2147483648), -1);
        CHECK.due("stays", x.count(12), 2147483647);
        CHECK.due("what it was", x.seed(0), 2147483647);
    }

    /**
     * From x = 0 the draws are 0, 21468, 9988, 22117, 3498, 16927, 16045, 19741, 12122, 8410 (12345 / 65536, and so
     * on). With one head a draw that is odd is nobody's, and one that is even is followed by a draw of its room.
     */
    private static void nightsByHand() {
        HeadCounts x = Check.in("rooms 2;door 0 1;head 0 1;sense 1;sense 2;linger 0");
        // 0: it goes, 21468 mod 1: to room 1. 9988: it goes, 22117 mod 1: to room 0. 3498: it goes, 16927: to room 1.
        CHECK.due("goings in three", x.nights(1, 3, 0, 1, 1), 3);
        CHECK.due("felt in room 0 in one of three", x.nights(1, 3, 0, 1, 0), 1);
        CHECK.due("felt in room 1 in two of three", x.nights(1, 3, 1, 1, 0), 2);
        // 16045 and 19741: nobody. 12122: it goes, 8410.
        CHECK.due("goings in five", x.nights(1, 5, 0, 1, 1), 3);
        CHECK.due("goings in six", x.nights(1, 6, 0, 1, 1), 4);
        // The draws go on in the next night, the rest begins anew: 0, 9988 | 3498, 16045.
        CHECK.due("two nights of two", x.nights(2, 2, 0, 1, 1), 3);
        CHECK.due("felt in room 0: behind the second, and behind none of the second night", x.nights(2, 2, 0, 1, 0), 1);
        CHECK.due("x stays", x.count(12), 0);
        CHECK.due("no minute went by", x.count(5), 0);
        CHECK.due("nobody went", x.count(10), 0);
        x.open(0, false);
        // With no room to go to there is no draw of one.
        CHECK.due("shut", x.nights(20, 100, 0, 1, 1), 0);
        CHECK.due("felt always", x.nights(20, 100, 0, 1, 0), 2000);
        x.open(0, true);
        x.die(0);
        CHECK.due("the dead go not", x.nights(20, 100, 0, 1, 1), 0);
        CHECK.due("bar 0", x.nights(3, 4, 0, 0, 0), 12);
        CHECK.due("nobody at all", Check.in("rooms 2;sense 1").nights(2, 3, 0, 0, 0), 6);
    }

    private static void nightsFelt() {
        HeadCounts x = Check.in("rooms 2;door 0 1;head 0 2;sense 1;delay 0 2;linger 4");
        // It leaves in the first minute and is back behind the second: felt 2 later, so 2, 2, 0, 2, 0, 0.
        CHECK.due("delays", x.nights(1, 6, 0, 1, 0), 3);
        HeadCounts y = Check.in("rooms 2;door 0 1;head 1 2;sense 2;linger 4");
        y.go(0, 0, true);
        // The echo stays till MINUTE 5: four minutes on, three of them felt; it goes to 1 in the first, and back.
        CHECK.due("echoes, too", y.nights(1, 5, 0, 3, 0), 2);
        HeadCounts z = Check.in("rooms 4;door 0 1;door 0 2;door 0 3;head 0 1;sense 4;most 1 1;head 1 1");
        z.seed(1);
        Oracle o = new Oracle();
        feedOracle(o, "rooms 4;door 0 1;door 0 2;door 0 3;head 0 1;sense 4;most 1 1;head 1 1");
        o.seed(1);
        for (int n = 1; n <= 100; n += 9) {
            CHECK.due("nights of " + n, z.nights(20, n, 0, 1, 0), o.nights(20, n, 0, 1, 0));
            CHECK.due("goings of " + n, z.nights(20, n, 0, 1, 1), o.nights(20, n, 0, 1, 1));
        }
    }

    private static void feedOracle(Oracle o, String text) {
        for (int start = 0; start < text.length(); start += 20) {
            int[] f = new int[5];
            for (int i = 0; i < 20; i++) {
                f[i / 4] = f[i / 4] << 8 | (start + i < text.length() ? text.charAt(start + i) : 32);
            }
            o.feed(f[0], f[1], f[2], f[3], f[4]);
        }
        o.house();
    }

    private static void wrong() {
        HeadCounts x = Check.in("rooms 2;door 0 1;head 0 1;sense 1");
        int[][] calls = {{0, 1, 0, 0, 0}, {21, 1, 0, 0, 0}, {1, 0, 0, 0, 0}, {1, 101, 0, 0, 0}, {1, 1, 1, 0, 0}, {1, 1, -1, 0, 0},
            {1, 1, 0, -1, 0}, {1, 1, 0, 100, 0}, {1, 1, 0, 0, -1}, {1, 1, 0, 0, 2}};
        for (int[] c : calls) {
            CHECK.due(java.util.Arrays.toString(c), x.nights(c[0], c[1], c[2], c[3], c[4]), -1);
        }
        CHECK.due("bar 99", x.nights(20, 100, 0, 99, 0), 0);
    }
}
