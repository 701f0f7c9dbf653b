/** Promises 9 to 16: minutes, who begins and rests, what is undone and kept. */
final class MinutesTest {
    private static final Check CHECK = new Check("MinutesTest");

    public static void main(String[] args) {
        begin();
        rest();
        moss();
        mossHolds();
        smear();
        minutesOfPlain();
        minutesOfLazy();
        minutesOfRunner();
        drip();
        frost();
        fullTub();
        hole();
        goIsRefused();
        undo();
        undoAtMostEight();
        keep();
        backAndUndo();
        CHECK.end();
    }

    private static void walker(String where, SieveTub tub, int how, int way, int drops, int rounds) {
        CHECK.due(where + ": how she is", tub.sister(0, 5), how);
        CHECK.due(where + ": her way", tub.sister(0, 6), way);
        CHECK.due(where + ": her drops", tub.sister(0, 7), drops);
        CHECK.due(where + ": her ROUNDS", tub.sister(0, 8), rounds);
    }

    private static void begin() {
        SieveTub tub = Check.tell("plain 6 40;runner 3 9");
        CHECK.refused("9: begin(2)", tub, () -> tub.begin(2), SieveTub.UNKNOWN);
        CHECK.refused("9: begin(-1)", tub, () -> tub.begin(-1), SieveTub.UNKNOWN);
        CHECK.due("9: begin(1)", tub.begin(1), 2);
        CHECK.due("9: begin(0)", tub.begin(0), 6);
        walker("9", tub, 1, 6, 40, 0);
        CHECK.due("9: count(6)", tub.count(6), 3);
        CHECK.refused("9: she walks TO", tub, () -> tub.begin(0), SieveTub.NOT);
        tub.go(7);
        CHECK.due("9: she walks BACK", tub.sister(0, 5), 2);
        CHECK.refused("9: she walks BACK", tub, () -> tub.begin(0), SieveTub.NOT);
    }

    private static void rest() {
        SieveTub tub = Check.tell("open 3;plain 2 40;plain 1 1");
        CHECK.refused("10: rest(2)", tub, () -> tub.rest(2), SieveTub.UNKNOWN);
        CHECK.refused("10: rest(-1)", tub, () -> tub.rest(-1), SieveTub.UNKNOWN);
        CHECK.refused("10: she RESTS", tub, () -> tub.rest(0), SieveTub.NOT);
        tub.begin(0);
        tub.moss(0);
        tub.go(1);
        CHECK.due("10: rest(0)", tub.rest(0), 39);
        walker("10", tub, 0, 0, 0, 0);
        CHECK.due("10: MOSS stays", tub.sister(0, 9), 29);
        CHECK.due("10: nobody works", tub.count(6), 0);
        tub.go(5);
        CHECK.due("10: nothing is poured", tub.count(7), 0);
        tub.begin(0);
        tub.go(6);
        CHECK.due("10: on her way BACK", tub.rest(0) + tub.count(7), 76);
        tub.begin(0);
        tub.go(3);
        CHECK.due("10: nothing is lost on her way BACK", tub.rest(0), 0);
        CHECK.due("10: ROUNDS stay", tub.sister(0, 8), 1);
    }

    private static void moss() {
        SieveTub tub = Check.tell("plain 1 1;plain 1 1");
        CHECK.refused("11: moss(2)", tub, () -> tub.moss(2), SieveTub.UNKNOWN);
        CHECK.refused("11: moss(-1)", tub, () -> tub.moss(-1), SieveTub.UNKNOWN);
        CHECK.due("11: moss(1)", tub.moss(1), 30);
        CHECK.refused("11: she has some", tub, () -> tub.moss(1), SieveTub.NOT);
        CHECK.due("11: to come", tub.sister(1, 9), 30);
        CHECK.due("11: the other has none", tub.sister(0, 9), 0);
        tub.go(29);
        CHECK.due("11: to come", tub.sister(1, 9), 1);
        CHECK.refused("11: she has some yet", tub, () -> tub.moss(1), SieveTub.NOT);
        tub.go(1);
        CHECK.due("11: to come", tub.sister(1, 9), 0);
        CHECK.due("11: moss(1) anew", tub.moss(1), 30);
    }

    /** From the minute in which it was given on, for 30: the 31st drips as before. */
    private static void mossHolds() {
        SieveTub tub = Check.tell("open 5;plain 6 40");
        tub.moss(0);
        tub.go(28);
        tub.begin(0);
        tub.go(1);
        CHECK.due("11: in the 29th", tub.sister(0, 7), 38);
        tub.go(1);
        CHECK.due("11: in the 30th", tub.sister(0, 7), 36);
        tub.go(1);
        CHECK.due("11: in the 31st", tub.sister(0, 7), 31);
        SieveTub torn = Check.tell("torn 9;plain 6 40;doubled 9;plain 6 40;lined 1;plain 6 40");
        for (int s = 0; s < 3; s++) {
            torn.moss(s);
            torn.begin(s);
        }
        torn.go(1);
        CHECK.due("11: half of 11", torn.sister(0, 7), 35);
        CHECK.due("11: half of 3", torn.sister(1, 7), 39);
        CHECK.due("11: half of 0", torn.sister(2, 7), 40);
    }

    private static void smear() {
        SieveTub tub = Check.tell("hole 7");
        CHECK.refused("12: smear(0)", tub, () -> tub.smear(0), SieveTub.OUTSIDE);
        CHECK.refused("12: smear(10)", tub, () -> tub.smear(10), SieveTub.OUTSIDE);
        CHECK.refused("12: smear(-1)", tub, () -> tub.smear(-1), SieveTub.OUTSIDE);
        CHECK.due("12: smear(1)", tub.smear(1), 6);
        CHECK.due("12: smear(5)", tub.smear(5), 1);
        CHECK.due("12: count(4)", tub.count(4), 1);
        CHECK.due("12: smear(9)", tub.smear(9), 0);
        CHECK.refused("12: it is 0", tub, () -> tub.smear(1), SieveTub.NOT);
        CHECK.refused("12: OUTSIDE ahead of NOT", tub, () -> tub.smear(10), SieveTub.OUTSIDE);
    }

    private static void minutesOfPlain() {
        SieveTub tub = Check.tell("open 0;plain 2 10");
        tub.begin(0);
        CHECK.due("13: go(1)", tub.go(1), 0);
        walker("13: on the way", tub, 1, 1, 10, 0);
        CHECK.due("13: she pours 10, 1 is lost", tub.go(1), 9);
        walker("13: she has poured", tub, 2, 2, 0, 0);
        CHECK.due("13: poured", tub.count(7), 10);
        CHECK.due("13: a minute", tub.go(1), 8);
        walker("13: on the way BACK", tub, 2, 1, 0, 0);
        CHECK.due("13: a minute", tub.go(1), 7);
        walker("13: she DRAWS anew", tub, 1, 2, 10, 1);
        CHECK.due("13: two minutes", tub.go(2), 14);
        CHECK.due("13: the MINUTE", tub.count(1), 6);
        CHECK.due("13: poured", tub.count(7), 20);
        CHECK.due("13: never FULL", tub.count(5), 0);
    }

    private static void minutesOfLazy() {
        SieveTub tub = Check.tell("open 0;lazy 1 10");
        tub.begin(0);
        tub.go(1);
        walker("13: lazy, poured", tub, 2, 3, 0, 0);
        tub.go(2);
        walker("13: lazy, the last minute", tub, 2, 1, 0, 0);
        tub.go(1);
        walker("13: lazy, a ROUND", tub, 1, 1, 10, 1);
    }

    private static void minutesOfRunner() {
        SieveTub tub = Check.tell("open 1;runner 3 10");
        CHECK.due("13: runner", tub.begin(0), 2);
        tub.go(2);
        walker("13: runner, poured", tub, 2, 2, 0, 0);
        CHECK.due("13: runner, poured", tub.count(7), 8);
        tub.go(9);
        walker("13: runner, end of the third", tub, 2, 1, 0, 2);
        tub.go(1);
        walker("13: runner, the fourth", tub, 1, 4, 10, 3);
        tub.go(4);
        walker("13: runner, BACK as long", tub, 2, 4, 0, 3);
        CHECK.due("13: runner, poured", tub.count(7), 30);
        tub.rest(0);
        CHECK.due("13: runner, begun anew", tub.begin(0), 4);
    }

    private static void drip() {
        SieveTub tub = Check.tell("open 9;plain 3 20;lined 9;plain 1 20;doubled 9;plain 1 20;"
                + "torn 9;plain 1 20;open 3;plain 1 2;tub 99;hole 0");
        tub.begin(0);
        tub.go(2);
        CHECK.due("13: open", tub.sister(0, 7), 2);
        CHECK.due("13: none is left to pour", tub.go(1), 0);
        int[] want = {0, 16, 17, 9, 0};
        int level = 0;
        tub.rest(0);
        for (int s = 1; s < 5; s++) {
            tub.begin(s);
            level += want[s];
            CHECK.due("13: sieve of " + s, tub.go(1), level);
            tub.rest(s);
        }
    }

    private static void frost() {
        SieveTub tub = Check.tell("open 3;plain 6 40;frost 2 3");
        tub.begin(0);
        int[] want = {37, 34, 34, 34, 31};
        for (int m = 0; m < want.length; m++) {
            tub.go(1);
            CHECK.due("13: frost, minute " + m, tub.sister(0, 7), want[m]);
        }
        SieveTub one = Check.tell("open 3;plain 6 40;frost 0 0");
        one.begin(0);
        one.moss(0);
        one.go(1);
        CHECK.due("13: frost in minute 0", one.sister(0, 7), 40);
        one.go(1);
        CHECK.due("13: behind the frost", one.sister(0, 7), 39);
    }

    private static void fullTub() {
        SieveTub tub = Check.tell("open 0;plain 1 20;plain 1 40;tub 50;hole 2");
        tub.begin(0);
        tub.begin(1);
        CHECK.due("13: 60 are 50, 5 are lost", tub.go(1), 45);
        CHECK.due("13: FULL", tub.count(5), 1);
        CHECK.due("13: poured above HEIGHT too", tub.count(7), 60);
        CHECK.due("13: 5 are lost", tub.go(1), 40);
        CHECK.due("13: FULL anew", tub.go(1), 45);
        CHECK.due("13: FULL", tub.count(5), 2);
        CHECK.due("13: poured", tub.count(7), 120);
        SieveTub just = Check.tell("open 0;plain 1 20;tub 20;hole 0");
        just.begin(0);
        just.go(1);
        CHECK.due("13: just FULL", just.count(5), 1);
        just.rest(0);
        just.go(4);
        CHECK.due("13: FULL in each minute", just.count(5), 5);
    }

    /** LEVEL times HOLE by 20, the rest counted as 1 more. */
    private static void hole() {
        int[][] loads = {{1, 1, 0}, {20, 1, 19}, {21, 1, 19}, {20, 9, 11}, {40, 9, 22}, {39, 9, 21},
            {1, 9, 0}, {3, 9, 1}, {40, 0, 40}};
        for (int[] load : loads) {
            SieveTub tub = Check.tell("open 0;plain 1 " + load[0] + ";hole " + load[1]);
            tub.begin(0);
            CHECK.due("13: " + load[0] + " by hole " + load[1], tub.go(1), load[2]);
        }
    }

    private static void goIsRefused() {
        SieveTub tub = Check.tell("plain 1 9");
        tub.begin(0);
        CHECK.refused("13: go(0)", tub, () -> tub.go(0), SieveTub.OUTSIDE);
        CHECK.refused("13: go(100)", tub, () -> tub.go(100), SieveTub.OUTSIDE);
        CHECK.refused("13: go(-1)", tub, () -> tub.go(-1), SieveTub.OUTSIDE);
        for (int i = 0; i < 10; i++) {
            tub.go(99);
        }
        CHECK.due("13: MINUTE 990", tub.count(1), 990);
        CHECK.refused("13: above 999", tub, () -> tub.go(10), SieveTub.FULL);
        tub.go(9);
        CHECK.due("13: MINUTE 999", tub.count(1), 999);
        CHECK.refused("13: above 999", tub, () -> tub.go(1), SieveTub.FULL);
        CHECK.refused("13: OUTSIDE ahead of FULL", tub, () -> tub.go(100), SieveTub.OUTSIDE);
    }

    private static void undo() {
        SieveTub tub = Check.tell("open 1;plain 2 20;tub 15;hole 3");
        CHECK.refused("14: none", tub, tub::undo, SieveTub.NOT);
        String[] states = new String[6];
        states[0] = sceneOf(tub);
        tub.begin(0);
        states[1] = sceneOf(tub);
        tub.moss(0);
        states[2] = sceneOf(tub);
        tub.smear(2);
        states[3] = sceneOf(tub);
        tub.go(6);
        states[4] = sceneOf(tub);
        tub.rest(0);
        tub.begin(1);
        tub.go(0);
        tub.moss(0);
        tub.seen(3, 3);
        tub.write('x');
        CHECK.due("14: count(9)", tub.count(9), 5);
        for (int left = 4; left >= 0; left--) {
            CHECK.due("14: undo()", tub.undo(), left);
            CHECK.due("14: count(9)", tub.count(9), left);
            CHECK.due("14: as it was, " + left, sceneOf(tub).equals(states[left]) ? 1 : 0, 1);
        }
        CHECK.refused("14: none any more", tub, tub::undo, SieveTub.NOT);
        CHECK.due("14: SEEN stays", tub.count(8), 1);
        CHECK.due("14: THE TEXT stays", tub.count(10), 1);
    }

    /** What minutes change, without the text, SEEN and what can be undone. */
    private static String sceneOf(SieveTub tub) {
        StringBuilder all = new StringBuilder();
        for (int what = 1; what <= 7; what++) {
            all.append(tub.count(what)).append(' ');
        }
        for (int what = 5; what <= 9; what++) {
            all.append(tub.sister(0, what)).append(' ');
        }
        return all.toString();
    }

    private static void undoAtMostEight() {
        SieveTub tub = new SieveTub();
        for (int i = 1; i <= 11; i++) {
            tub.go(i);
            CHECK.due("14: count(9)", tub.count(9), Math.min(8, i));
        }
        int minute = 66;
        for (int i = 11; i > 3; i--) {
            CHECK.due("14: undo()", tub.undo(), i - 4);
            minute -= i;
            CHECK.due("14: the MINUTE", tub.count(1), minute);
        }
        CHECK.refused("14: the ninth", tub, tub::undo, SieveTub.NOT);
        tub.go(9);
        CHECK.due("14: undo()", tub.undo(), 0);
        CHECK.due("14: the MINUTE", tub.count(1), 6);
    }

    private static void keep() {
        SieveTub tub = Check.tell("open 1;plain 2 20;tub 15;hole 3");
        CHECK.refused("15: keep(-1)", tub, () -> tub.keep(-1), SieveTub.UNKNOWN);
        CHECK.refused("15: keep(2)", tub, () -> tub.keep(2), SieveTub.UNKNOWN);
        CHECK.refused("16: back(-1)", tub, () -> tub.back(-1), SieveTub.UNKNOWN);
        CHECK.refused("16: back(2)", tub, () -> tub.back(2), SieveTub.UNKNOWN);
        CHECK.refused("16: back(0)", tub, () -> tub.back(0), SieveTub.NOT);
        tub.begin(0);
        tub.moss(0);
        tub.smear(1);
        tub.go(7);
        String first = sceneOf(tub);
        CHECK.due("15: keep(1)", tub.keep(1), 7);
        CHECK.due("15: what can be undone stays", tub.count(9), 4);
        CHECK.refused("16: back(0)", tub, () -> tub.back(0), SieveTub.NOT);
        tub.rest(0);
        tub.smear(1);
        tub.go(3);
        CHECK.due("15: keep(0)", tub.keep(0), 10);
        String second = sceneOf(tub);
        tub.go(5);
        tub.seen(4, 4);
        tub.write('y');
        CHECK.due("16: back(1)", tub.back(1), 7);
        CHECK.due("16: as it was", sceneOf(tub).equals(first) ? 1 : 0, 1);
        CHECK.due("16: nothing can be undone", tub.count(9), 0);
        CHECK.due("16: SEEN stays", tub.count(8), 1);
        CHECK.due("16: THE TEXT stays", tub.count(10), 1);
        CHECK.due("16: back(0)", tub.back(0), 10);
        CHECK.due("16: as it was", sceneOf(tub).equals(second) ? 1 : 0, 1);
        CHECK.due("16: back(1) anew", tub.back(1), 7);
        tub.go(1);
        CHECK.due("15: keep(1) anew", tub.keep(1), 8);
        CHECK.due("16: back(1)", tub.back(1), 8);
    }

    private static void backAndUndo() {
        SieveTub tub = Check.tell("plain 1 5");
        tub.go(5);
        tub.keep(0);
        CHECK.due("14: undo()", tub.undo(), 0);
        CHECK.due("16: what was undone comes again", tub.back(0), 5);
        CHECK.refused("16: nothing can be undone", tub, tub::undo, SieveTub.NOT);
        tub.go(2);
        CHECK.due("14: undo()", tub.undo(), 0);
        CHECK.due("14: the MINUTE", tub.count(1), 5);
    }
}
