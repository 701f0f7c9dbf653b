/** The document's part 3, what is foretold and what was seen: a test for each sentence. */
final class ForetoldBounds {
    private static final String TERMS = "Terms";
    /** A drop in each other minute: LEVEL behind n MINUTES is the half of n, counted up. */
    private static final String DROPS = "open 0;plain 1 1;hole 0;tub 99";
    private static final int NONE = SieveTub.NONE;

    private final Sentences doc;

    ForetoldBounds(Sentences doc) {
        this.doc = doc;
    }

    void all() {
        nothingChanges();
        levels();
        moss();
        who();
        togethers();
        pitch();
        seens();
        leaves();
        firstThatFits();
        lowestTerms();
    }

    private void levels() {
        level();
        highest();
        asItIsNow();
        full();
    }

    private void moss() {
        mossMinutes();
        ofThoseWhoHaveNone();
        moreThanWithout();
        mossOfSeveral();
    }

    private void who() {
        addsMinutes();
        addsRested();
        fewestMinutes();
        noneOfThemToo();
        fewestOfSeveral();
    }

    private void togethers() {
        togetherMinutes();
        delays();
        notWithinN();
        firstRow();
        delayOfOne();
    }

    private void seens() {
        sixSeen();
        aheadOfMinute();
        workedInMinuteZero();
        workedSets();
    }

    private void nothingChanges() {
        doc.says(TERMS, "3 FORETOLD from now (nothing changes).");
        doc.changesNothing("level(99)", Made::busy, t -> t.level(99));
        doc.changesNothing("highest(99)", Made::busy, t -> t.highest(99));
        doc.changesNothing("full()", Made::busy, SieveTub::full);
        doc.changesNothing("mossTo(99)", Made::busy, t -> t.mossTo(99));
        doc.changesNothing("adds(1, 99)", Made::busy, t -> t.adds(1, 99));
        doc.changesNothing("fewest(99)", Made::busy, t -> t.fewest(99));
        doc.changesNothing("together(40, -1)", Made::busy, t -> t.together(40, NONE));
        doc.changesNothing("together(40, 1)", Made::busy, t -> t.together(40, 1));
        doc.changesNothing("pitch(9)", Made::busy, t -> t.pitch(9));
        doc.changesNothing("worked(0)", Made::busy, t -> t.worked(0));
    }

    private void level() {
        doc.says(TERMS, "LEVEL behind n MINUTES (0 .. 99).");
        SieveTub tub = Made.begun(DROPS, 1);
        doc.due("level(-1)", tub.level(-1), SieveTub.OUTSIDE);
        doc.due("level(0)", tub.level(0), 0);
        doc.due("level(1)", tub.level(1), 1);
        doc.due("level(98)", tub.level(98), 49);
        doc.due("level(99)", tub.level(99), 50);
        doc.due("level(100)", tub.level(100), SieveTub.OUTSIDE);
        tub.go(99);
        doc.due("level(0) behind go(99)", tub.level(0), 50);
        doc.due("level(1) behind go(99)", tub.level(1), 50);
        doc.due("level(99) behind go(99)", tub.level(99), 99);
        Made.inMinute(tub, 999);
        doc.due("level(99) in MINUTE 999", tub.level(99), 99);
    }

    private void highest() {
        doc.says(TERMS, "HIGHEST of n MINUTES (0 .. 99):");
        SieveTub tub = Made.begun(DROPS, 1);
        doc.due("highest(-1)", tub.highest(-1), SieveTub.OUTSIDE);
        doc.due("highest(0)", tub.highest(0), 0);
        doc.due("highest(1)", tub.highest(1), 1);
        doc.due("highest(98)", tub.highest(98), 49);
        doc.due("highest(99)", tub.highest(99), 50);
        doc.due("highest(100)", tub.highest(100), SieveTub.OUTSIDE);
    }

    private void asItIsNow() {
        doc.says(TERMS, "the most that LEVEL is behind the pouring of any of them "
                + "(as it is now, if that is more).");
        SieveTub tub = Made.begun("open 0;plain 2 10;hole 9", 1);
        doc.due("highest(1), ahead of the pouring", tub.highest(1), 0);
        doc.due("highest(2), ahead of the loss", tub.highest(2), 10);
        doc.due("level(2)", tub.level(2), 5);
        doc.due("highest(5), the first of them", tub.highest(5), 10);
        tub.go(2);
        doc.due("highest(0) now", tub.highest(0), 5);
        doc.due("highest(3), less then", tub.highest(3), 5);
        doc.due("highest(4), the next pouring", tub.highest(4), 10);
        doc.due("at most HEIGHT", Made.begun("open 0;plain 1 40;tub 39;hole 9", 1).highest(9), 39);
    }

    private void full() {
        doc.says(TERMS, "FULL: the MINUTES till it is FULL first (1: in this one), of 99; none.");
        doc.due("in this one", Made.begun("open 0;plain 1 40;tub 40;hole 9", 1).full(), 1);
        doc.due("1 too few, once", Made.begun("open 0;plain 1 39;tub 40;hole 9", 1).full(), 3);
        doc.due("in the next", Made.begun("open 0;plain 2 40;tub 40;hole 9", 1).full(), 2);
        doc.due("in the 97th", Made.begun("open 0;plain 1 1;tub 49;hole 0", 1).full(), 97);
        doc.due("in the 99th", Made.begun("open 0;plain 1 1;tub 50;hole 0", 1).full(), 99);
        SieveTub late = Made.begun("open 0;plain 1 1;tub 51;hole 0", 1);
        doc.due("in the 101st", late.full(), NONE);
        late.go(1);
        doc.due("in the 100th", late.full(), NONE);
        late.go(1);
        doc.due("in the 99th, two minutes later", late.full(), 99);
        doc.due("nobody", new SieveTub().full(), NONE);
        SieveTub stays = Made.begun("open 0;lazy 1 9;tub 9;hole 0", 1);
        stays.go(1);
        stays.rest(0);
        doc.due("it is so already", stays.full(), 1);
    }

    private void mossMinutes() {
        doc.says(TERMS, "MOSS for n MINUTES (1 .. 99):");
        doc.due("mossTo(0)", Made.begun("open 4;plain 1 9", 1).mossTo(0), SieveTub.OUTSIDE);
        doc.due("mossTo(1)", Made.begun("open 4;plain 1 9", 1).mossTo(1), 0);
        SieveTub far = Made.begun("open 1;lazy 6 9;hole 0;tub 99", 1);
        doc.due("level(99) without", far.level(99), 21);
        doc.due("mossTo(99)", far.mossTo(99), 0);
        doc.due("mossTo(100)", far.mossTo(100), SieveTub.OUTSIDE);
        far.moss(0);
        // she walks TO in 0 .. 5, 14 .. 19, 28 .. 33: 6 more twice, then 2 more by 28 and 29
        doc.due("level(99) with it", far.level(99), 35);
    }

    private void ofThoseWhoHaveNone() {
        doc.says(TERMS, "the SISTER (of those who have none) to whom, were it given now, "
                + "LEVEL behind n MINUTES would be most,");
        SieveTub tub = Made.begun("open 4;plain 2 10;plain 3 12;hole 0", 3);
        doc.due("mossTo(2), 4 more", tub.mossTo(2), 0);
        doc.due("mossTo(3), 6 more", tub.mossTo(3), 1);
        tub.moss(1);
        doc.due("mossTo(3), the other has some", tub.mossTo(3), 0);
        tub.moss(0);
        doc.due("mossTo(3), both have some", tub.mossTo(3), NONE);
        SieveTub late = Check.tell("open 4;plain 6 40;hole 0");
        late.moss(0);
        late.go(29);
        late.begin(0);
        doc.due("for a minute to come", late.mossTo(6), NONE);
        late.go(1);
        doc.due("for none to come", late.mossTo(5), 0);
        SieveTub ends = Made.begun("open 2;plain 6 40;hole 0;tub 99", 0);
        ends.go(9);
        ends.begin(0);
        doc.due("from now on", ends.mossTo(6), 0);
    }

    private void moreThanWithout() {
        doc.says(TERMS, "and more than without;");
        doc.due("1 more", Made.begun("open 1;plain 1 9;hole 0", 1).mossTo(1), 0);
        doc.due("as much: no DRIP", Made.begun("open 0;plain 1 9;hole 0", 1).mossTo(1), NONE);
        doc.due("as much: FROST", Made.begun("open 9;plain 1 9;hole 0;frost 0 0", 1).mossTo(1), NONE);
        doc.due("as much: at HEIGHT", Made.begun("open 4;plain 1 40;hole 0;tub 9", 1).mossTo(9), NONE);
        doc.due("as much: not poured yet", Made.begun("open 4;plain 2 40;hole 0", 1).mossTo(1), NONE);
        doc.due("as much: she RESTS", Check.tell("open 4;plain 1 40;hole 0").mossTo(9), NONE);
    }

    private void mossOfSeveral() {
        doc.says(TERMS, "of several the least; none.");
        String three = "open 1;plain 1 9;open 4;plain 1 9;plain 1 9;hole 0";
        doc.due("the second and the third alike", Made.begun(three, 7).mossTo(1), 1);
        doc.due("the third alone", Made.begun(three, 5).mossTo(1), 2);
        String five = "open 0;plain 1 9;plain 1 9;plain 1 9;plain 1 9;open 2;plain 1 9;hole 0";
        doc.due("the last of five", Made.begun(five, 31).mossTo(1), 4);
        doc.due("nobody", new SieveTub().mossTo(1), NONE);
    }

    private void addsMinutes() {
        doc.says(TERMS, "ADDS of one for n MINUTES (1 .. 99):");
        SieveTub tub = Made.begun(DROPS, 1);
        doc.due("adds(0, 0)", tub.adds(0, 0), SieveTub.OUTSIDE);
        doc.due("adds(0, 1)", tub.adds(0, 1), 1);
        doc.due("adds(0, 99)", tub.adds(0, 99), 50);
        doc.due("adds(0, 100)", tub.adds(0, 100), SieveTub.OUTSIDE);
    }

    private void addsRested() {
        doc.says(TERMS, "by how much HIGHEST would be less, RESTED she from now on.");
        SieveTub tub = Made.begun("open 0;plain 1 10;plain 1 20;plain 1 40;tub 50;hole 0", 3);
        doc.due("adds(0, 1)", tub.adds(0, 1), 10);
        doc.due("adds(1, 3), at most HEIGHT", tub.adds(1, 3), 30);
        doc.due("adds(0, 9), FULL also without her", tub.adds(0, 9), 0);
        doc.due("adds(2, 9), she RESTS already", tub.adds(2, 9), 0);
        tub.go(1);
        doc.due("adds(1, 1), what she poured stays", tub.adds(1, 1), 0);
        SieveTub onWay = Made.begun("open 0;plain 3 40;hole 0", 1);
        onWay.go(2);
        doc.due("adds(0, 1), on her way", onWay.adds(0, 1), 40);
    }

    private void fewestMinutes() {
        doc.says(TERMS, "FEWEST for n MINUTES (1 .. 99):");
        SieveTub tub = Made.begun("open 0;plain 1 1;tub 50;hole 0", 1);
        doc.due("fewest(0)", tub.fewest(0), SieveTub.OUTSIDE);
        doc.due("fewest(1)", tub.fewest(1), NONE);
        doc.due("fewest(1) of HEIGHT 1", Made.begun("open 0;plain 1 1;tub 1", 1).fewest(1), 1);
        doc.due("fewest(98)", tub.fewest(98), NONE);
        doc.due("fewest(99)", tub.fewest(99), 1);
        doc.due("fewest(100)", tub.fewest(100), SieveTub.OUTSIDE);
    }

    private void noneOfThemToo() {
        doc.says(TERMS, "the fewest of those who do not REST (none of them, too) by whom alone "
                + "(all others RESTED from now on) it is FULL in n MINUTES;");
        SieveTub tub = Made.begun("open 0;plain 1 20;tub 20;hole 0", 1);
        doc.due("by her", tub.fewest(1), 1);
        tub.go(1);
        doc.due("by none of them", tub.fewest(1), 0);
        tub.rest(0);
        doc.due("by none, all REST", tub.fewest(1), 0);
        doc.due("nobody", new SieveTub().fewest(99), NONE);
        doc.due("one RESTS", Made.begun("open 0;plain 1 20;plain 1 20;tub 20", 2).fewest(1), 2);
        doc.due("all REST", Check.tell("open 0;plain 1 20;tub 20").fewest(99), NONE);
        String five = "open 0;plain 1 10;plain 1 10;plain 1 10;plain 1 10;plain 1 10;hole 9;tub 50";
        doc.due("all five", Made.begun(five, 31).fewest(1), 31);
        doc.due("four of five", Made.begun(five, 30).fewest(1), NONE);
    }

    private void fewestOfSeveral() {
        doc.says(TERMS, "of several sets the least (bits); none.");
        String alike = "open 0;plain 1 20;plain 1 20;plain 1 20;tub 40;hole 9";
        doc.due("two of three alike", Made.begun(alike, 7).fewest(1), 3);
        String crossed = "open 0;plain 1 5;plain 1 10;plain 1 20;plain 1 25;tub 30;hole 9";
        doc.due("1 and 2 (6), not 0 and 3 (9)", Made.begun(crossed, 15).fewest(1), 6);
        String last = "open 0;plain 1 10;plain 1 10;plain 1 10;plain 1 30;tub 30;hole 9";
        doc.due("one (8), not three (7)", Made.begun(last, 15).fewest(1), 8);
        doc.due("none", Made.begun("open 0;plain 1 1;plain 1 1;tub 99", 3).fewest(99), NONE);
    }

    private void togetherMinutes() {
        doc.says(TERMS, "TOGETHER for n MINUTES (1 .. 40):");
        // two minutes for each way till minute 12, then four: poured in 1, 5, 9, 15, 23, 31, 39
        SieveTub tub = Check.tell("open 0;runner 3 9;tub 99;hole 0");
        doc.due("together(0, -1)", tub.together(0, NONE), SieveTub.OUTSIDE);
        doc.due("together(1, -1)", tub.together(1, NONE), 0);
        doc.due("together(2, -1)", tub.together(2, NONE), 9);
        doc.due("together(39, -1)", tub.together(39, NONE), 54);
        doc.due("together(40, -1)", tub.together(40, NONE), 63);
        doc.due("together(41, -1)", tub.together(41, NONE), SieveTub.OUTSIDE);
        doc.due("together(0, 0)", tub.together(0, 0), SieveTub.OUTSIDE);
        doc.due("together(40, 0)", tub.together(40, 0), 0);
        doc.due("together(41, 0)", tub.together(41, 0), SieveTub.OUTSIDE);
    }

    private void row(String where, SieveTub tub, int n, int most, int... delays) {
        doc.due(where + ", how much", tub.together(n, NONE), most);
        for (int s = 0; s < delays.length; s++) {
            doc.due(where + ", DELAY of " + s, tub.together(n, s), delays[s]);
        }
    }

    private void delays() {
        doc.says(TERMS, "were those who REST to begin behind 0 .. 3 MINUTES each");
        row("0", Check.tell("open 0;lazy 4 10;lazy 4 10;hole 9"), 4, 20, 0, 0);
        row("1", Check.tell("open 0;lazy 3 10;lazy 4 10;hole 9"), 4, 20, 1, 0);
        row("2", Check.tell("open 0;lazy 2 10;lazy 4 10;hole 9"), 4, 20, 2, 0);
        row("3", Check.tell("open 0;lazy 1 10;lazy 4 10;hole 9"), 4, 20, 3, 0);
        row("not 4", Check.tell("open 0;lazy 2 10;lazy 6 10;hole 9"), 6, 15, 3, 0);
        String five = "open 0;lazy 4 8;lazy 3 8;lazy 2 8;lazy 1 8;lazy 4 8;hole 9;tub 99";
        row("five", Check.tell(five), 4, 40, 0, 1, 2, 3, 0);
    }

    private void notWithinN() {
        doc.says(TERMS, "(who does not within n does not):");
        row("2 is within 3", Check.tell("open 9;lazy 1 20;hole 0;frost 2 2"), 3, 20, 2);
        row("2 is not within 2", Check.tell("open 9;lazy 1 20;hole 0;frost 2 2"), 2, 11, 0);
        row("3 is within 4", Check.tell("open 9;lazy 1 20;hole 9;frost 3 3"), 4, 20, 3);
        row("3 is not within 3", Check.tell("open 9;lazy 1 20;hole 9;frost 3 3"), 3, 11, 0);
        row("0 is within 1", Check.tell("open 0;lazy 1 20;hole 9"), 1, 20, 0);
    }

    private void firstRow() {
        doc.says(TERMS, "DELAYS by which HIGHEST is most; of several the first row "
                + "(by SISTERS, less first): how much;");
        row("all alike", Check.tell("open 9;lazy 1 9;lazy 1 9"), 9, 0, 0, 0);
        // 18 are poured whole in the frost of minute 1 alone: 0 1, 1 0 and 1 1 come to HEIGHT
        String frost = "open 9;lazy 1 18;lazy 1 18;hole 0;tub 20;frost 1 1";
        row("0 1 is ahead of 1 0", Check.tell(frost), 2, 20, 0, 1);
        row("by the loss", Check.tell("open 0;plain 2 20;plain 3 20;hole 9"), 4, 40, 1, 0);
        row("at most HEIGHT", Check.tell("open 0;plain 2 20;plain 3 20;hole 9;tub 25"), 3, 25, 0, 0);
        SieveTub high = Made.begun("open 0;lazy 1 30;lazy 6 1;hole 1", 1);
        high.go(1);
        row("as it is now", high, 2, 28, NONE, 0);
        row("nobody", new SieveTub(), 40, 0);
    }

    private void delayOfOne() {
        doc.says(TERMS, "the DELAY of a SISTER (none: she does not REST).");
        SieveTub tub = Made.begun("open 0;lazy 6 20;plain 2 20;hole 9", 1);
        tub.go(2);
        row("one walks TO", tub, 4, 40, NONE, 2);
        tub.go(4);
        row("one walks BACK", tub, 2, 26, NONE, 0);
        tub.begin(1);
        row("none RESTS", tub, 2, 26, NONE, NONE);
    }

    private void pitch() {
        doc.says(TERMS, "PITCH: FULL, were HOLE less by p (0 .. 9; 0 at least).");
        SieveTub tub = Made.begun("open 0;plain 1 10;tub 20;hole 9", 1);
        doc.due("pitch(-1)", tub.pitch(-1), SieveTub.OUTSIDE);
        doc.due("pitch(0)", tub.pitch(0), NONE);
        doc.due("pitch(5)", tub.pitch(5), 7);
        doc.due("pitch(8)", tub.pitch(8), 5);
        doc.due("pitch(9)", tub.pitch(9), 3);
        doc.due("pitch(10)", tub.pitch(10), SieveTub.OUTSIDE);
        tub.smear(5);
        doc.due("pitch(3), HOLE 1", tub.pitch(3), 5);
        doc.due("pitch(4), HOLE 0", tub.pitch(4), 3);
        doc.due("pitch(5), 0 at least", tub.pitch(5), 3);
        doc.due("pitch(9), 0 at least", tub.pitch(9), 3);
        tub.smear(4);
        doc.due("pitch(0) of HOLE 0", tub.pitch(0), 3);
        doc.due("pitch(1) of HOLE 0", tub.pitch(1), 3);
        SieveTub tall = Made.begun("open 0;plain 1 1;tub 60;hole 0", 1);
        doc.due("pitch(1), nothing comes through the HOLE", tall.pitch(1), NONE);
        doc.due("pitch(9), nothing comes through the HOLE", tall.pitch(9), NONE);
        doc.due("in the 99th", Made.begun("open 0;plain 1 1;tub 50;hole 1", 1).pitch(1), 99);
        doc.due("in the 101st", Made.begun("open 0;plain 1 1;tub 51;hole 1", 1).pitch(1), NONE);
    }

    private void sixSeen() {
        doc.says(TERMS, "SEEN, 6 at most:");
        SieveTub tub = new SieveTub();
        for (int i = 1; i <= 6; i++) {
            doc.due("SEEN " + i, tub.seen(i, 0), i);
        }
        doc.due("a seventh", tub.seen(7, 0), SieveTub.FULL);
        doc.due("count(8)", tub.count(8), 6);
        doc.due("all of them are so", tub.worked(0), 1);
        tub.forget();
        for (int i = 1; i <= 5; i++) {
            tub.seen(i, 0);
        }
        tub.seen(6, 1);
        doc.due("the sixth is not so", tub.worked(0), 0);
    }

    private void aheadOfMinute() {
        doc.says(TERMS, "LEVEL (0 .. 99) ahead of a MINUTE (0 .. 99).");
        SieveTub tub = Check.tell("open 0;plain 1 1;plain 1 2;hole 0;tub 99");
        doc.due("seen(-1, 0)", tub.seen(-1, 0), SieveTub.OUTSIDE);
        doc.due("seen(0, -1)", tub.seen(0, -1), SieveTub.OUTSIDE);
        doc.due("seen(100, 0)", tub.seen(100, 0), SieveTub.OUTSIDE);
        doc.due("seen(0, 100)", tub.seen(0, 100), SieveTub.OUTSIDE);
        doc.due("seen(0, 0)", tub.seen(0, 0), 1);
        doc.due("ahead of MINUTE 0 it is empty", tub.worked(0), 4);
        doc.due("seen(1, 3)", tub.seen(1, 3), 2);
        doc.due("ahead of MINUTE 1 they have poured", tub.worked(1), 3);
        doc.due("seen(99, 99)", tub.seen(99, 99), 3);
        doc.due("ahead of MINUTE 99, at most HEIGHT", tub.worked(1), 3);
        tub.forget();
        tub.seen(99, 50);
        doc.due("50 ahead of MINUTE 99", tub.worked(1), 1);
        tub.forget();
        doc.due("seen(0, 99)", tub.seen(0, 99), 1);
        doc.due("never so ahead of MINUTE 0", tub.worked(0), 0);
    }

    private void workedInMinuteZero() {
        doc.says(TERMS, "WORKED: sets of SISTERS (by bits) by whom, had just they begun in MINUTE 0, "
                + "THE TUB empty, HOLE as told, no MOSS, all that is SEEN would be so:");
        SieveTub tub = Check.tell("open 3;runner 2 20;lined 4;plain 2 15;hole 9;frost 0 0");
        tub.begin(0);
        tub.moss(0);
        tub.moss(1);
        tub.smear(9);
        tub.go(20);
        tub.level(99);
        // she pours 20 in the frost of minute 0, 9 are lost; the other 13 in minute 1: 24 less 11
        tub.seen(1, 11);
        doc.due("the runner, or both", tub.worked(0), 2);
        tub.seen(2, 13);
        doc.due("both, how many", tub.worked(0), 1);
        doc.due("both", tub.worked(1), 3);
        tub.forget();
        tub.seen(2, 6);
        doc.due("the runner alone", tub.worked(1), 1);
        // poured in 0, 2, 4, 7 and in 0, 2, 4, 8: each begins with no ROUNDS
        SieveTub runners = Check.tell("open 0;runner 1 1;runner 2 2;hole 0;tub 99");
        runners.begin(1);
        runners.go(50);
        runners.seen(9, 12);
        doc.due("both runners", runners.worked(1), 3);
    }

    private void workedSets() {
        doc.says(TERMS, "how many; the least; those in all of them, by bits.");
        SieveTub five = Check.tell("open 0;plain 1 1;plain 1 2;plain 1 4;plain 1 8;plain 1 16;hole 0");
        sets("nothing SEEN", five, 32, 0, 0);
        five.seen(1, 31);
        sets("all five", five, 1, 31, 31);
        five.forget();
        five.seen(1, 0);
        sets("none of them", five, 1, 0, 0);
        five.seen(1, 1);
        sets("not both", five, 0, NONE, 0);
        SieveTub three = Check.tell("open 0;plain 1 10;plain 1 20;plain 1 10;tub 99;hole 0");
        three.seen(1, 30);
        sets("1 with 0 or 2", three, 2, 3, 2);
        three.forget();
        three.seen(1, 20);
        sets("1, or 0 and 2", three, 2, 2, 0);
        sets("nobody", new SieveTub(), 1, 0, 0);
    }

    private void sets(String where, SieveTub tub, int many, int least, int inAll) {
        doc.due(where + ", how many", tub.worked(0), many);
        doc.due(where + ", the least", tub.worked(1), least);
        doc.due(where + ", those in all", tub.worked(2), inAll);
    }

    private void odds(int n, int k, int q, int above, int below) {
        SieveTub tub = new SieveTub();
        doc.due("leaves(" + n + ", " + k + ", " + q + ", 0)", tub.leaves(n, k, q, 0), above);
        doc.due("leaves(" + n + ", " + k + ", " + q + ", 1)", tub.leaves(n, k, q, 1), below);
    }

    private void leaves() {
        doc.says(TERMS, "LEAVES: the odds that of n MINUTES (0 .. 6) in k at least (0 .. 6) the HOLE "
                + "is stopped, in each by q of ten (0 .. 10), by itself.");
        int outside = SieveTub.OUTSIDE;
        odds(-1, 0, 0, outside, outside);
        odds(0, 0, 0, 1, 1);
        odds(0, 1, 10, 0, 1);
        odds(6, 0, 0, 1, 1);
        odds(6, 1, 0, 0, 1);
        odds(6, 6, 10, 1, 1);
        odds(7, 0, 0, outside, outside);
        odds(6, -1, 5, outside, outside);
        odds(6, 6, 3, 729, 1000000);
        odds(6, 7, 5, outside, outside);
        odds(5, 6, 9, 0, 1);
        odds(1, 1, -1, outside, outside);
        odds(1, 1, 1, 1, 10);
        odds(1, 1, 9, 9, 10);
        odds(1, 1, 11, outside, outside);
        odds(6, 1, 1, 468559, 1000000);
    }

    private void firstThatFits() {
        doc.says(TERMS, "Refused, and nothing changes: UNKNOWN (no such SISTER), OUTSIDE (another number "
                + "is not as told), NOT (not now: as told), FULL: the first of these that fits.");
        int unknown = SieveTub.UNKNOWN;
        int outside = SieveTub.OUTSIDE;
        doc.refused("sister(2, 10)", Made::busy, t -> t.sister(2, 10), unknown);
        doc.refused("as(2, 4)", Made::busy, t -> t.as(2, 4), unknown);
        doc.refused("as(0, 4)", Made::busy, t -> t.as(0, 4), outside);
        doc.refused("sieveAs(2, 5)", Made::busy, t -> t.sieveAs(2, 5), unknown);
        doc.refused("sieveAs(0, 5)", Made::busy, t -> t.sieveAs(0, 5), outside);
        doc.refused("adds(2, 0)", Made::busy, t -> t.adds(2, 0), unknown);
        doc.refused("together(0, 2)", Made::busy, t -> t.together(0, 2), unknown);
        doc.refused("together(41, -2)", Made::busy, t -> t.together(41, -2), unknown);
        doc.refused("back(2), nothing kept", SieveTub::new, t -> t.back(2), unknown);
        doc.refused("smear(10) of HOLE 0", () -> Check.tell("hole 0"), t -> t.smear(10), outside);
        doc.refused("smear(0) of HOLE 0", () -> Check.tell("hole 0"), t -> t.smear(0), outside);
        doc.refused("go(100) in MINUTE 999", () -> Made.inMinute(new SieveTub(), 999), t -> t.go(100),
                outside);
        doc.refused("write(256) of 160", () -> Sentences.written(" ".repeat(160)), t -> t.write(256),
                outside);
        doc.refused("seen(100, 0) of 6", ForetoldBounds::sixTold, t -> t.seen(100, 0), outside);
        doc.refused("seen(0, 100) of 6", ForetoldBounds::sixTold, t -> t.seen(0, 100), outside);
    }

    private static SieveTub sixTold() {
        SieveTub tub = new SieveTub();
        for (int i = 0; i < 6; i++) {
            tub.seen(i, 0);
        }
        return tub;
    }

    private void lowestTerms() {
        doc.says(TERMS, "Parts are told in lowest terms: above (part 0), below (1).");
        odds(2, 1, 5, 3, 4);
        odds(1, 1, 5, 1, 2);
        odds(1, 1, 3, 3, 10);
        odds(1, 1, 0, 0, 1);
        odds(1, 1, 10, 1, 1);
        odds(3, 2, 4, 44, 125);
        odds(6, 3, 1, 317, 20000);
        odds(6, 3, 5, 21, 32);
    }
}
