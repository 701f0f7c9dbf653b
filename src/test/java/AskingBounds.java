import java.util.function.Supplier;

/** Promises 17 to 29, what is foretold and what was seen: a test for each sentence, with each refusal. */
final class AskingBounds {
    private static final int NONE = SieveTub.NONE;
    private static final int UNKNOWN = SieveTub.UNKNOWN;
    private static final int OUTSIDE = SieveTub.OUTSIDE;
    /** 10 and 20 drops in each other minute, and nothing is lost. */
    private static final String TWO = "open 0;plain 1 10;plain 1 20;tub 50;hole 0";

    private final Sentences doc;

    AskingBounds(Sentences doc) {
        this.doc = doc;
    }

    void all() {
        level();
        highest();
        full();
        mossTo();
        adds();
        fewest();
        together();
        pitch();
        seen();
        seenRefuses();
        forget();
        worked();
        leaves();
        counts();
        countRefuses();
    }

    private void level() {
        doc.says(17, "LEVEL. OUTSIDE.");
        SieveTub tub = Made.begun(TWO, 3);
        int[] want = {0, 30, 30, 50, 50};
        for (int n = 0; n < want.length; n++) {
            doc.due("level(" + n + ")", tub.level(n), want[n]);
        }
        doc.due("level(99)", tub.level(99), 50);
        doc.refusedAround("level()", Made::busy, 0, 99, SieveTub::level, OUTSIDE);
    }

    private void highest() {
        doc.says(18, "HIGHEST. OUTSIDE.");
        SieveTub tub = Made.begun(TWO, 3);
        int[] want = {0, 30, 30, 50, 50};
        for (int n = 0; n < want.length; n++) {
            doc.due("highest(" + n + ")", tub.highest(n), want[n]);
        }
        doc.due("highest(99)", tub.highest(99), 50);
        doc.refusedAround("highest()", Made::busy, 0, 99, SieveTub::highest, OUTSIDE);
    }

    private void full() {
        doc.says(19, "FULL; NONE.");
        SieveTub tub = Made.begun(TWO, 3);
        doc.due("full()", tub.full(), 3);
        tub.go(2);
        doc.due("full() two minutes later", tub.full(), 1);
        doc.due("all REST", Check.tell(TWO).full(), NONE);
        doc.due("at first", new SieveTub().full(), NONE);
    }

    private void mossTo() {
        doc.says(20, "MOSS: to whom; NONE. OUTSIDE.");
        doc.due("the last of two", Made.begun("open 0;plain 1 9;open 9;plain 1 9", 3).mossTo(1), 1);
        doc.due("none", Made.begun(TWO, 3).mossTo(99), NONE);
        doc.refusedAround("mossTo()", Made::busy, 1, 99, SieveTub::mossTo, OUTSIDE);
        doc.refusedAround("mossTo() at first", SieveTub::new, 1, 99, SieveTub::mossTo, OUTSIDE);
    }

    private void adds() {
        doc.says(21, "ADDS. UNKNOWN; OUTSIDE.");
        doc.due("adds(1, 1)", Made.begun(TWO, 3).adds(1, 1), 20);
        doc.due("adds(1, 99)", Made.begun(TWO, 3).adds(1, 99), 0);
        doc.refusedAround("adds(, 1)", Made::busy, 0, 1, (t, s) -> t.adds(s, 1), UNKNOWN);
        doc.refusedAround("adds(, 0)", Made::busy, 0, 1, (t, s) -> t.adds(s, 0), UNKNOWN);
        doc.refusedAround("adds(, 100)", Made::busy, 0, 1, (t, s) -> t.adds(s, 100), UNKNOWN);
        doc.refusedAround("adds(1, )", Made::busy, 1, 99, (t, n) -> t.adds(1, n), OUTSIDE);
        doc.refused("adds(0, 1) at first", SieveTub::new, t -> t.adds(0, 1), UNKNOWN);
    }

    private void fewest() {
        doc.says(22, "FEWEST, by bits; NONE. OUTSIDE.");
        SieveTub tub = Made.begun(TWO, 3);
        doc.due("fewest(2)", tub.fewest(2), NONE);
        doc.due("fewest(3)", tub.fewest(3), 3);
        doc.due("fewest(5)", tub.fewest(5), 2);
        doc.due("fewest(9)", tub.fewest(9), 1);
        doc.refusedAround("fewest()", Made::busy, 1, 99, SieveTub::fewest, OUTSIDE);
        doc.refusedAround("fewest() at first", SieveTub::new, 1, 99, SieveTub::fewest, OUTSIDE);
    }

    private void together() {
        doc.says(23, "TOGETHER: how much (sister NONE), the DELAY; NONE. UNKNOWN; OUTSIDE.");
        SieveTub tub = Made.begun("open 0;plain 1 9;plain 1 9;hole 0", 1);
        doc.due("how much", tub.together(1, NONE), 18);
        doc.due("the DELAY", tub.together(1, 1), 0);
        doc.due("NONE", tub.together(1, 0), NONE);
        doc.due("nobody, how much", new SieveTub().together(1, NONE), 0);
        doc.refused("nobody", SieveTub::new, t -> t.together(1, 0), UNKNOWN);
        for (int n : new int[] {1, 0, 41}) {
            doc.refusedAround("together(" + n + ", )", Made::busy, NONE, 1, (t, s) -> t.together(n, s),
                    UNKNOWN);
        }
        for (int s = NONE; s <= 1; s++) {
            int sister = s;
            doc.refusedAround("together(, " + s + ")", Made::busy, 1, 40, (t, n) -> t.together(n, sister),
                    OUTSIDE);
        }
    }

    private void pitch() {
        doc.says(24, "PITCH; NONE. OUTSIDE.");
        SieveTub tub = Made.begun("open 0;plain 1 10;tub 20;hole 9", 1);
        doc.due("pitch(0)", tub.pitch(0), NONE);
        doc.due("pitch(9)", tub.pitch(9), 3);
        doc.due("HOLE stays", tub.count(4), 9);
        doc.refusedAround("pitch()", Made::busy, 0, 9, SieveTub::pitch, OUTSIDE);
    }

    private void seen() {
        doc.says(25, "SEEN: how many.");
        SieveTub tub = new SieveTub();
        int[][] marks = {{0, 0}, {0, 99}, {99, 0}, {99, 99}, {99, 99}, {5, 5}};
        for (int i = 0; i < marks.length; i++) {
            doc.due("SEEN " + (i + 1), tub.seen(marks[i][0], marks[i][1]), i + 1);
            doc.due("count(8)", tub.count(8), i + 1);
        }
    }

    private static SieveTub sixSeen() {
        SieveTub tub = Made.busy();
        for (int i = 0; i < 4; i++) {
            tub.seen(0, 0);
        }
        return tub;
    }

    private void seenRefuses() {
        doc.says(25, "OUTSIDE; FULL.");
        for (Supplier<SieveTub> made : java.util.List.<Supplier<SieveTub>>of(Made::busy, AskingBounds::sixSeen)) {
            doc.refusedAround("seen(, 0)", made, 0, 99, (t, minute) -> t.seen(minute, 0), OUTSIDE);
            doc.refusedAround("seen(99, )", made, 0, 99, (t, level) -> t.seen(99, level), OUTSIDE);
        }
        doc.refused("a seventh", AskingBounds::sixSeen, t -> t.seen(0, 0), SieveTub.FULL);
        doc.refused("a seventh that is not so", AskingBounds::sixSeen, t -> t.seen(99, 99), SieveTub.FULL);
    }

    private void forget() {
        doc.says(26, "SEEN is nothing: how many there were.");
        SieveTub tub = new SieveTub();
        doc.due("of none", tub.forget(), 0);
        tub.seen(0, 9);
        doc.due("of one", tub.forget(), 1);
        doc.due("of none anew", tub.forget(), 0);
        doc.due("count(8)", tub.count(8), 0);
        doc.due("nothing is SEEN", tub.worked(0), 1);
        SieveTub six = sixSeen();
        doc.due("of six", six.forget(), 6);
        doc.due("one anew", six.seen(0, 0), 1);
        doc.due("what can be undone stays", six.count(9), 5);
        doc.due("THE TEXT stays", six.count(10), 12);
    }

    private void worked() {
        doc.says(27, "WORKED: how many (what 0), the least (1; NONE), those in all (2; none: 0). OUTSIDE.");
        SieveTub tub = Check.tell(TWO);
        doc.due("how many", tub.worked(0), 4);
        tub.seen(1, 30);
        doc.due("how many", tub.worked(0), 1);
        doc.due("the least", tub.worked(1), 3);
        doc.due("those in all", tub.worked(2), 3);
        tub.seen(1, 31);
        doc.due("how many of none", tub.worked(0), 0);
        doc.due("the least of none", tub.worked(1), NONE);
        doc.due("those in all of none", tub.worked(2), 0);
        doc.refusedAround("worked()", Made::busy, 0, 2, SieveTub::worked, OUTSIDE);
    }

    private void leaves() {
        doc.says(28, "LEAVES. OUTSIDE.");
        doc.due("part 0", new SieveTub().leaves(2, 1, 5, 0), 3);
        doc.due("part 1", new SieveTub().leaves(2, 1, 5, 1), 4);
        doc.refusedAround("leaves(, 0, 0, 0)", Made::busy, 0, 6, (t, n) -> t.leaves(n, 0, 0, 0), OUTSIDE);
        doc.refusedAround("leaves(6, , 0, 0)", Made::busy, 0, 6, (t, k) -> t.leaves(6, k, 0, 0), OUTSIDE);
        doc.refusedAround("leaves(6, 6, , 1)", Made::busy, 0, 10, (t, q) -> t.leaves(6, 6, q, 1), OUTSIDE);
        doc.refusedAround("leaves(6, 6, 9, )", Made::busy, 0, 1, (t, part) -> t.leaves(6, 6, 9, part), OUTSIDE);
        doc.changesNothing("leaves(6, 3, 5, 0)", Made::busy, t -> t.leaves(6, 3, 5, 0));
    }

    private void counts() {
        doc.says(29, "0 SISTERS, 1 the MINUTE, 2 LEVEL, 3 HEIGHT, 4 HOLE, 5 how often it was FULL, "
                + "6 those who do not REST, by bits, 7 drops that were poured (also above HEIGHT), 8 SEEN, "
                + "9 how many can be undone, 10 letters of THE TEXT.");
        SieveTub tub = Check.tell("open 0;plain 1 40;lazy 2 30;lazy 3 20;tub 45;hole 5");
        tub.begin(0);
        tub.begin(2);
        tub.smear(1);
        tub.go(3);
        tub.seen(9, 9);
        tub.seen(9, 8);
        tub.write(1);
        // minute 0: 40 less 8 is 32; minute 1: less 7 is 25; minute 2: 60 more is 45, less 9
        int[] want = {3, 3, 36, 45, 4, 1, 5, 100, 2, 4, 1};
        for (int what = 0; what < want.length; what++) {
            doc.due("count(" + what + ")", tub.count(what), want[what]);
        }
        doc.due("all five", Made.begun("lazy 1 1;lazy 1 1;lazy 1 1;lazy 1 1;lazy 1 1", 31).count(6), 31);
    }

    private void countRefuses() {
        doc.says(29, "OUTSIDE.");
        doc.refusedAround("count()", Made::busy, 0, 10, SieveTub::count, OUTSIDE);
    }
}
