/** Promises 25 to 29: what was seen, who worked, leaves, counts. */
final class SeenTest {
    private static final Check CHECK = new Check("SeenTest");
    private static final String THREE = "open 0;plain 1 10;plain 1 20;plain 1 10;tub 99;hole 0";

    public static void main(String[] args) {
        seen();
        forget();
        worked();
        workedAsAtMinuteZero();
        workedToTheLastMinute();
        leaves();
        count();
        CHECK.end();
    }

    private static void seen() {
        SieveTub tub = new SieveTub();
        CHECK.refused("25: seen(-1, 0)", tub, () -> tub.seen(-1, 0), SieveTub.OUTSIDE);
        CHECK.refused("25: seen(100, 0)", tub, () -> tub.seen(100, 0), SieveTub.OUTSIDE);
        CHECK.refused("25: seen(0, -1)", tub, () -> tub.seen(0, -1), SieveTub.OUTSIDE);
        CHECK.refused("25: seen(0, 100)", tub, () -> tub.seen(0, 100), SieveTub.OUTSIDE);
        CHECK.due("25: seen(0, 99)", tub.seen(0, 99), 1);
        CHECK.due("25: seen(99, 0)", tub.seen(99, 0), 2);
        CHECK.due("25: the same anew", tub.seen(99, 0), 3);
        for (int i = 4; i <= 6; i++) {
            CHECK.due("25: seen(5, 5)", tub.seen(5, 5), i);
        }
        CHECK.refused("25: a seventh", tub, () -> tub.seen(5, 5), SieveTub.FULL);
        CHECK.refused("25: OUTSIDE ahead of FULL", tub, () -> tub.seen(5, 100), SieveTub.OUTSIDE);
        CHECK.due("25: count(8)", tub.count(8), 6);
    }

    private static void forget() {
        SieveTub tub = Check.tell(THREE);
        CHECK.due("26: forget()", tub.forget(), 0);
        tub.seen(1, 77);
        tub.seen(1, 30);
        CHECK.due("26: none fits", tub.worked(0), 0);
        CHECK.due("26: forget()", tub.forget(), 2);
        CHECK.due("26: count(8)", tub.count(8), 0);
        CHECK.due("26: all fit", tub.worked(0), 8);
        CHECK.due("26: seen() anew", tub.seen(1, 30), 1);
        CHECK.due("26: two fit", tub.worked(0), 2);
    }

    private static void fits(String where, SieveTub tub, int many, int least, int inAll) {
        CHECK.due("27: " + where + ", how many", tub.worked(0), many);
        CHECK.due("27: " + where + ", the least", tub.worked(1), least);
        CHECK.due("27: " + where + ", those in all", tub.worked(2), inAll);
    }

    private static void worked() {
        SieveTub tub = Check.tell(THREE);
        CHECK.due("27: worked(-1)", tub.worked(-1), SieveTub.OUTSIDE);
        CHECK.due("27: worked(3)", tub.worked(3), SieveTub.OUTSIDE);
        fits("nothing SEEN", tub, 8, 0, 0);
        tub.seen(0, 0);
        fits("ahead of minute 0", tub, 8, 0, 0);
        tub.seen(1, 30);
        fits("30", tub, 2, 3, 2);
        tub.seen(2, 30);
        tub.seen(3, 60);
        fits("60", tub, 2, 3, 2);
        tub.seen(3, 61);
        fits("not both", tub, 0, SieveTub.NONE, 0);
        tub.forget();
        tub.seen(1, 40);
        fits("all", tub, 1, 7, 7);
        tub.forget();
        tub.seen(9, 0);
        fits("none of them", tub, 1, 0, 0);
        tub.forget();
        tub.seen(1, 20);
        fits("one or the two others", tub, 2, 2, 0);
        tub.forget();
        tub.seen(0, 1);
        fits("not empty at first", tub, 0, SieveTub.NONE, 0);
        SieveTub five = Check.tell("open 0;plain 1 1;plain 1 2;plain 1 4;plain 1 8;plain 1 16;hole 0");
        fits("five, nothing SEEN", five, 32, 0, 0);
        five.seen(1, 21);
        fits("five", five, 1, 21, 21);
        five.forget();
        for (int m = 1; m <= 6; m++) {
            five.seen(m, (m + 1) / 2 * 13);
        }
        fits("six SEEN", five, 1, 13, 13);
        SieveTub nobody = new SieveTub();
        fits("nobody", nobody, 1, 0, 0);
        nobody.seen(3, 3);
        fits("nobody, not so", nobody, 0, SieveTub.NONE, 0);
    }

    /** HOLE as told, an empty tub, no moss, no rounds, whatever is now. */
    private static void workedAsAtMinuteZero() {
        SieveTub tub = Check.tell("open 3;runner 2 20;lined 4;plain 2 15;hole 9;frost 0 0");
        tub.begin(0);
        tub.moss(0);
        tub.moss(1);
        tub.smear(9);
        tub.go(20);
        // 0 pours 20 in the frost of minute 0, 9 are lost; then 5; 2 are BACK of 1
        tub.seen(1, 11);
        fits("the runner", tub, 2, 1, 1);
        // 1 pours 13 in minute 1: 24 less 11; without her 11 less 5
        tub.seen(2, 13);
        fits("both", tub, 1, 3, 3);
        tub.forget();
        tub.seen(2, 6);
        fits("the runner alone", tub, 1, 1, 1);
    }

    private static void workedToTheLastMinute() {
        SieveTub tub = Check.tell("open 0;plain 1 1;plain 1 2;hole 0;tub 99");
        tub.seen(99, 50);
        fits("ahead of minute 99", tub, 1, 1, 1);
        tub.forget();
        tub.seen(99, 99);
        fits("ahead of minute 99, FULL", tub, 2, 2, 2);
        tub.seen(98, 98);
        fits("ahead of minute 98", tub, 1, 2, 2);
    }

    private static void odds(int n, int k, int q, int above, int below) {
        String call = "28: leaves(" + n + ", " + k + ", " + q + ", ";
        SieveTub tub = new SieveTub();
        CHECK.due(call + "0)", tub.leaves(n, k, q, 0), above);
        CHECK.due(call + "1)", tub.leaves(n, k, q, 1), below);
    }

    private static void leaves() {
        odds(0, 0, 0, 1, 1);
        odds(0, 1, 10, 0, 1);
        odds(2, 1, 5, 3, 4);
        odds(1, 1, 3, 3, 10);
        odds(3, 2, 4, 44, 125);
        odds(3, 4, 9, 0, 1);
        odds(4, 0, 7, 1, 1);
        odds(6, 6, 10, 1, 1);
        odds(6, 1, 0, 0, 1);
        odds(6, 0, 0, 1, 1);
        odds(6, 6, 3, 729, 1000000);
        odds(6, 3, 1, 317, 20000);
        odds(6, 3, 5, 21, 32);
        SieveTub tub = new SieveTub();
        int[][] wrong = {{-1, 0, 0, 0}, {7, 0, 0, 0}, {0, -1, 0, 0}, {0, 7, 0, 0}, {0, 0, -1, 0},
            {0, 0, 11, 0}, {0, 0, 0, -1}, {0, 0, 0, 2}};
        for (int[] w : wrong) {
            CHECK.due("28: " + java.util.Arrays.toString(w), tub.leaves(w[0], w[1], w[2], w[3]),
                    SieveTub.OUTSIDE);
        }
    }

    private static void count() {
        SieveTub tub = Check.tell("open 0;plain 1 40;lazy 2 30;lazy 3 20;tub 45;hole 5");
        tub.begin(0);
        tub.begin(2);
        tub.smear(1);
        tub.go(3);
        tub.seen(9, 9);
        tub.seen(9, 8);
        tub.write(1);
        // minute 0: 40 less 8 is 32; minute 1: less 7 is 25; minute 2: 60 more is 45, less 9
        int[] want = {3, 3, 36, 45, 4, 1, 5, 100, 2, 4, 1};
        for (int what = 0; what < want.length; what++) {
            CHECK.due("29: count(" + what + ")", tub.count(what), want[what]);
        }
        CHECK.due("29: count(-1)", tub.count(-1), SieveTub.OUTSIDE);
        CHECK.due("29: count(11)", tub.count(11), SieveTub.OUTSIDE);
    }
}
