/** Promises 17 to 24: what is foretold, and that nothing changes by it. */
final class ForetoldTest {
    private static final Check CHECK = new Check("ForetoldTest");
    private static final String TWO = "open 0;plain 1 10;plain 1 20;tub 50;hole 0";

    public static void main(String[] args) {
        outside();
        nothingChanges();
        level();
        levelAsGo();
        highest();
        full();
        mossTo();
        mossToOfSeveral();
        adds();
        fewest();
        fewestOfNone();
        together();
        togetherWithWalkers();
        togetherByFrost();
        pitch();
        fewerSisters();
        CHECK.end();
    }

    private static SieveTub begun(String text, int set) {
        SieveTub tub = Check.tell(text);
        for (int s = 0; s < 5; s++) {
            if ((set >> s & 1) != 0) {
                tub.begin(s);
            }
        }
        return tub;
    }

    private static void outside() {
        SieveTub tub = begun(TWO, 1);
        int outside = SieveTub.OUTSIDE;
        CHECK.due("17: level(-1)", tub.level(-1), outside);
        CHECK.due("17: level(100)", tub.level(100), outside);
        CHECK.due("17: level(99)", tub.level(99), 50);
        CHECK.due("18: highest(-1)", tub.highest(-1), outside);
        CHECK.due("18: highest(100)", tub.highest(100), outside);
        CHECK.due("18: highest(99)", tub.highest(99), 50);
        CHECK.due("20: mossTo(0)", tub.mossTo(0), outside);
        CHECK.due("20: mossTo(100)", tub.mossTo(100), outside);
        CHECK.due("20: mossTo(99)", tub.mossTo(99), SieveTub.NONE);
        CHECK.due("21: adds(0, 0)", tub.adds(0, 0), outside);
        CHECK.due("21: adds(0, 100)", tub.adds(0, 100), outside);
        CHECK.due("21: adds(0, 99)", tub.adds(0, 99), 50);
        CHECK.due("21: adds(2, 9)", tub.adds(2, 9), SieveTub.UNKNOWN);
        CHECK.due("21: adds(-1, 9)", tub.adds(-1, 9), SieveTub.UNKNOWN);
        CHECK.due("21: UNKNOWN ahead of OUTSIDE", tub.adds(2, 0), SieveTub.UNKNOWN);
        CHECK.due("22: fewest(0)", tub.fewest(0), outside);
        CHECK.due("22: fewest(100)", tub.fewest(100), outside);
        CHECK.due("22: fewest(99)", tub.fewest(99), 1);
        CHECK.due("23: together(0, -1)", tub.together(0, SieveTub.NONE), outside);
        CHECK.due("23: together(41, -1)", tub.together(41, SieveTub.NONE), outside);
        CHECK.due("23: together(40, -1)", tub.together(40, SieveTub.NONE), 50);
        CHECK.due("23: together(0, 1)", tub.together(0, 1), outside);
        CHECK.due("23: together(9, 2)", tub.together(9, 2), SieveTub.UNKNOWN);
        CHECK.due("23: together(9, -2)", tub.together(9, -2), SieveTub.UNKNOWN);
        CHECK.due("23: UNKNOWN ahead of OUTSIDE", tub.together(0, 2), SieveTub.UNKNOWN);
        CHECK.due("24: pitch(-1)", tub.pitch(-1), outside);
        CHECK.due("24: pitch(10)", tub.pitch(10), outside);
    }

    private static void nothingChanges() {
        SieveTub tub = begun("open 1;plain 2 10;lazy 3 20;runner 4 30;frost 3 5", 3);
        tub.moss(1);
        tub.go(4);
        String ahead = Check.state(tub);
        tub.level(99);
        tub.highest(99);
        tub.full();
        tub.mossTo(99);
        tub.adds(0, 99);
        tub.fewest(99);
        tub.together(40, 2);
        tub.pitch(2);
        tub.worked(0);
        CHECK.due("17 to 24: nothing changes", Check.state(tub).equals(ahead) ? 1 : 0, 1);
    }

    private static void level() {
        SieveTub tub = begun(TWO, 3);
        int[] want = {0, 30, 30, 50, 50};
        for (int n = 0; n < want.length; n++) {
            CHECK.due("17: level(" + n + ")", tub.level(n), want[n]);
        }
        SieveTub leaks = begun("open 0;plain 2 10", 1);
        int[] low = {0, 0, 9, 8, 7, 6, 14};
        for (int n = 0; n < low.length; n++) {
            CHECK.due("17: level(" + n + ")", leaks.level(n), low[n]);
        }
    }

    /** What is foretold comes so, also beyond MINUTE 99 and with moss that ends. */
    private static void levelAsGo() {
        SieveTub tub = begun("torn 3;plain 3 39;lined 7;runner 4 33;open 2;lazy 2 12;frost 20 33", 7);
        tub.moss(0);
        tub.go(5);
        tub.moss(1);
        tub.smear(1);
        int foretold = tub.level(99);
        CHECK.due("17: level(99)", foretold, tub.go(99));
        CHECK.due("17: level(0)", tub.level(0), foretold);
        SieveTub cold = begun("open 5;plain 6 40;hole 0;frost 2 4", 1);
        CHECK.due("17: three minutes of frost", cold.level(6), 25);
        cold.go(3);
        CHECK.due("17: one more minute of frost", cold.level(3), 25);
        foretold = tub.level(61);
        CHECK.due("17: level(61)", foretold, tub.go(61));
        for (int i = 0; i < 8; i++) {
            tub.go(99);
        }
        CHECK.due("17: the MINUTE", tub.count(1), 957);
        CHECK.due("17: level beyond 999", tub.level(99) >= 0 ? 1 : 0, 1);
    }

    private static void highest() {
        SieveTub tub = begun("open 0;plain 2 10;hole 9", 1);
        CHECK.due("18: highest(0)", tub.highest(0), 0);
        CHECK.due("18: highest(1)", tub.highest(1), 0);
        CHECK.due("18: behind the pouring", tub.highest(2), 10);
        CHECK.due("18: highest(5)", tub.highest(5), 10);
        CHECK.due("18: level(5)", tub.level(5), 0);
        CHECK.due("18: highest(6)", tub.highest(6), 10);
        tub.go(2);
        CHECK.due("18: highest(0)", tub.highest(0), 5);
        CHECK.due("18: as it is now", tub.highest(1), 5);
        CHECK.due("18: as it is now", tub.highest(3), 5);
        CHECK.due("18: the next pouring", tub.highest(4), 10);
        SieveTub over = begun("open 0;plain 1 40;tub 30;hole 9", 1);
        CHECK.due("18: at most HEIGHT", over.highest(1), 30);
    }

    private static void full() {
        CHECK.due("19: in this one", begun("open 0;plain 1 40;tub 40;hole 9", 1).full(), 1);
        CHECK.due("19: all REST", begun(TWO, 0).full(), SieveTub.NONE);
        SieveTub tub = begun(TWO, 3);
        CHECK.due("19: full()", tub.full(), 3);
        tub.go(2);
        CHECK.due("19: full()", tub.full(), 1);
        tub.go(1);
        CHECK.due("19: it is FULL again", tub.full(), 1);
        SieveTub one = begun("open 0;plain 1 1;tub 50;hole 0", 1);
        CHECK.due("19: in the 99th", one.full(), 99);
        SieveTub none = begun("open 0;plain 1 1;tub 51;hole 0", 1);
        CHECK.due("19: in the 101st", none.full(), SieveTub.NONE);
        none.go(1);
        CHECK.due("19: in the 100th", none.full(), SieveTub.NONE);
        none.go(1);
        CHECK.due("19: in the 99th", none.full(), 99);
    }

    private static void mossTo() {
        SieveTub tub = begun("open 4;plain 2 10;plain 3 12;hole 0", 3);
        CHECK.due("20: none pours yet", tub.mossTo(1), SieveTub.NONE);
        CHECK.due("20: 4 more", tub.mossTo(2), 0);
        CHECK.due("20: 6 more", tub.mossTo(3), 1);
        tub.moss(1);
        CHECK.due("20: of those who have none", tub.mossTo(3), 0);
        tub.moss(0);
        CHECK.due("20: all have some", tub.mossTo(3), SieveTub.NONE);
        SieveTub late = Check.tell("open 4;plain 6 40;hole 0");
        late.moss(0);
        late.go(29);
        late.begin(0);
        CHECK.due("20: she has some for a minute", late.mossTo(6), SieveTub.NONE);
        late.go(1);
        CHECK.due("20: she has none any more", late.mossTo(5), 0);
        SieveTub rest = begun("open 4;plain 2 10;plain 3 12;hole 0", 1);
        CHECK.due("20: who RESTS pours nothing", rest.mossTo(9), 0);
        rest.rest(0);
        CHECK.due("20: all REST", rest.mossTo(9), SieveTub.NONE);
        CHECK.due("20: nobody", new SieveTub().mossTo(9), SieveTub.NONE);
        SieveTub high = begun("open 4;plain 1 40;tub 9;hole 0", 1);
        CHECK.due("20: not more than without", high.mossTo(9), SieveTub.NONE);
    }

    private static void mossToOfSeveral() {
        SieveTub tub = begun("open 1;plain 1 9;open 4;plain 1 9;plain 1 9;hole 0", 7);
        CHECK.due("20: of several the least", tub.mossTo(1), 1);
        SieveTub five = begun("open 0;plain 1 9;plain 1 9;plain 1 9;plain 1 9;open 2;plain 1 9;hole 0", 31);
        CHECK.due("20: the last of five", five.mossTo(1), 4);
        SieveTub ends = begun("open 4;plain 6 40;open 8;plain 6 40;hole 0", 1);
        ends.go(3);
        ends.begin(1);
        CHECK.due("20: the half way", ends.mossTo(3), 0);
        CHECK.due("20: the whole way", ends.mossTo(6), 1);
    }

    private static void adds() {
        SieveTub tub = begun(TWO + ";plain 1 40", 3);
        CHECK.due("21: adds(0, 1)", tub.adds(0, 1), 10);
        CHECK.due("21: adds(1, 1)", tub.adds(1, 1), 20);
        CHECK.due("21: she RESTS", tub.adds(2, 1), 0);
        CHECK.due("21: adds(0, 3)", tub.adds(0, 3), 10);
        CHECK.due("21: adds(1, 3)", tub.adds(1, 3), 30);
        CHECK.due("21: adds(0, 9)", tub.adds(0, 9), 0);
        CHECK.due("21: adds(1, 7)", tub.adds(1, 7), 10);
        tub.go(3);
        CHECK.due("21: it is as high now", tub.adds(1, 9), 0);
        SieveTub fall = begun("open 0;plain 1 20;hole 9;tub 99", 1);
        fall.go(1);
        CHECK.due("21: 11 now, 26 then", fall.adds(0, 9), fall.highest(9) - 11);
        CHECK.due("21: highest(2)", fall.highest(2), 26);
    }

    private static void fewest() {
        SieveTub tub = begun(TWO, 3);
        CHECK.due("22: too soon", tub.fewest(2), SieveTub.NONE);
        CHECK.due("22: both", tub.fewest(3), 3);
        CHECK.due("22: both", tub.fewest(4), 3);
        CHECK.due("22: one", tub.fewest(5), 2);
        CHECK.due("22: one", tub.fewest(8), 2);
        CHECK.due("22: of several the least", tub.fewest(9), 1);
        tub.rest(0);
        CHECK.due("22: who do not REST", tub.fewest(9), 2);
        SieveTub more = begun("open 0;plain 1 1;plain 1 2;plain 1 30;plain 1 20;hole 9;tub 50", 15);
        CHECK.due("22: the fewest, not the least", more.fewest(1), 12);
        SieveTub four = begun("open 0;plain 1 10;plain 1 10;plain 1 10;plain 1 30;hole 9;tub 30", 15);
        CHECK.due("22: one, not the three", four.fewest(1), 8);
    }

    private static void fewestOfNone() {
        SieveTub tub = begun("open 0;plain 1 20;tub 20;hole 0", 1);
        CHECK.due("22: by her", tub.fewest(1), 1);
        tub.go(1);
        CHECK.due("22: by none of them", tub.fewest(1), 0);
        tub.rest(0);
        CHECK.due("22: all REST", tub.fewest(9), 0);
    }

    private static void row(String where, SieveTub tub, int n, int most, int... delays) {
        CHECK.due(where + ", how much", tub.together(n, SieveTub.NONE), most);
        for (int s = 0; s < delays.length; s++) {
            CHECK.due(where + ", delay of " + s, tub.together(n, s), delays[s]);
        }
    }

    private static void together() {
        SieveTub tub = Check.tell("open 0;plain 2 20;plain 3 20;hole 9");
        row("23: none pours", tub, 1, 0, 0, 0);
        row("23: one pours", tub, 2, 20, 0, 0);
        row("23: both in the third", tub, 3, 40, 1, 0);
        row("23: the first row of several", tub, 4, 40, 1, 0);
        SieveTub three = Check.tell("open 0;plain 4 10;plain 1 10;plain 2 10;hole 9;tub 99");
        // 1 pours in each other minute from her delay on: 10, 5, 12 (in the third), 6, 13 ..
        row("23: three in the fourth", three, 4, 32, 0, 1, 2);
        SieveTub five = Check.tell("open 0;lazy 4 8;lazy 3 8;lazy 2 8;lazy 1 8;lazy 4 8;hole 9;tub 99");
        row("23: five in the fourth", five, 4, 40, 0, 1, 2, 3, 0);
        SieveTub late = Check.tell("open 0;lazy 1 10;lazy 4 10;hole 9;tub 99");
        row("23: not within n", late, 3, 10, 0, 0);
        row("23: 3 is within 4", late, 4, 20, 3, 0);
        SieveTub far = Check.tell("open 0;lazy 2 10;lazy 6 10;hole 9;tub 99");
        row("23: 3 at most", far, 6, 15, 3, 0);
        SieveTub high = Check.tell("open 0;plain 2 20;plain 3 20;hole 9;tub 25");
        row("23: at most HEIGHT", high, 3, 25, 0, 0);
        row("23: nobody", new SieveTub(), 9, 0);
    }

    private static void togetherWithWalkers() {
        SieveTub tub = begun("open 0;lazy 6 20;plain 2 20;hole 9", 1);
        tub.go(2);
        row("23: with one who walks", tub, 4, 40, SieveTub.NONE, 2);
        tub.begin(1);
        row("23: none RESTS", tub, 4, tub.highest(4), SieveTub.NONE, SieveTub.NONE);
        tub.rest(1);
        tub.go(4);
        CHECK.due("23: LEVEL", tub.count(2), 11);
        row("23: as it is now", tub, 1, 11, SieveTub.NONE, 0);
        SieveTub runner = Check.tell("open 0;lazy 4 20;runner 1 20;hole 9");
        runner.begin(1);
        runner.go(6);
        runner.rest(1);
        CHECK.due("23: ROUNDS", runner.sister(1, 8), 3);
        runner.go(50);
        row("23: by her ROUNDS", runner, 4, 40, 0, 2);
    }

    /** Drips by frost and moss are those of the minutes in which she would walk. */
    private static void togetherByFrost() {
        SieveTub tub = Check.tell("open 9;lazy 1 20;hole 0;frost 2 2");
        row("23: in the frost", tub, 3, 20, 2);
        row("23: behind n", tub, 2, 11, 0);
        SieveTub moss = Check.tell("open 8;lazy 2 20;hole 0");
        moss.moss(0);
        moss.go(28);
        row("23: moss for two minutes yet", moss, 5, 12, 0);
        moss.go(1);
        row("23: moss for a minute yet", moss, 5, 8, 0);
        moss.go(1);
        row("23: no moss", moss, 5, 4, 0);
    }

    private static void pitch() {
        SieveTub tub = begun("open 0;plain 1 10;tub 20;hole 9", 1);
        // poured each other minute, by hole 9: 5 2, 6 3, 7 3, 7 3 ..; by hole 4: 8 6, 12 9, 15 12, FULL
        CHECK.due("24: hole 9", tub.pitch(0), SieveTub.NONE);
        CHECK.due("24: hole 4", tub.pitch(5), 7);
        CHECK.due("24: hole 1", tub.pitch(8), 5);
        CHECK.due("24: hole 0", tub.pitch(9), 3);
        tub.smear(5);
        CHECK.due("24: hole 4", tub.pitch(0), 7);
        CHECK.due("24: full()", tub.full(), 7);
        CHECK.due("24: hole 1", tub.pitch(3), 5);
        CHECK.due("24: hole 0", tub.pitch(4), 3);
        CHECK.due("24: 0 at least", tub.pitch(9), 3);
        CHECK.due("24: HOLE stays", tub.count(4), 4);
        CHECK.due("24: none", Check.tell(TWO).pitch(9), SieveTub.NONE);
    }

    /** Sisters of an earlier text are gone behind well, and pour nothing. */
    private static void fewerSisters() {
        SieveTub tub = Check.tell("open 0;plain 1 9;plain 1 9;plain 1 9;plain 1 9;plain 1 9;hole 0");
        row("23: five", tub, 1, 45, 0, 0, 0, 0, 0);
        for (int s = 0; s < 5; s++) {
            tub.begin(s);
        }
        CHECK.due("17: five", tub.level(1), 45);
        Check.write(tub, "well;open 0;plain 1 7;hole 0");
        tub.well();
        row("23: one", tub, 1, 7, 0);
        CHECK.due("17: she RESTS", tub.level(1), 0);
        tub.begin(0);
        CHECK.due("17: one", tub.level(1), 7);
        CHECK.due("18: one", tub.highest(1), 7);
        CHECK.due("21: one", tub.adds(0, 1), 7);
        CHECK.due("22: one", tub.fewest(99), 1);
        CHECK.due("27: one", tub.worked(0), 2);
        CHECK.due("29: one", tub.count(6), 1);
    }
}
