/** The document's part 2, how a minute goes: a test for each sentence. */
final class MinuteBounds {
    private static final String TERMS = "Terms";

    private final Sentences doc;

    MinuteBounds(Sentences doc) {
        this.doc = doc;
    }

    void all() {
        walks();
        drips();
        minutes();
        kinds();
    }

    private void walks() {
        howSheIs();
        walkIsPace();
        walkOfRunner();
        threeRounds();
        draws();
    }

    private void drips() {
        dripOfOpen();
        dripOfLined();
        dripOfDoubled();
        dripOfTorn();
        dripByMoss();
        thirtyMinutes();
        dripInFrost();
    }

    private void minutes() {
        dripIsLost();
        pours();
        round();
        atMostHeight();
        fullTimes();
        loses();
        nextMinute();
    }

    private void kinds() {
        kindsOfSisters();
        kindsOfSieves();
    }

    private static SieveTub begun(String text) {
        SieveTub tub = Check.tell(text);
        for (int s = 0; s < tub.count(0); s++) {
            tub.begin(s);
        }
        return tub;
    }

    private void walker(String where, SieveTub tub, int how, int way, int drops, int rounds) {
        doc.due(where + ", how she is", tub.sister(0, 5), how);
        doc.due(where + ", her way", tub.sister(0, 6), way);
        doc.due(where + ", her drops", tub.sister(0, 7), drops);
        doc.due(where + ", her ROUNDS", tub.sister(0, 8), rounds);
    }

    private void howSheIs() {
        doc.says(TERMS, "2 A SISTER RESTS (0), walks TO THE TUB (1), or BACK (2).");
        SieveTub tub = Check.tell("open 0;plain 1 5");
        doc.due("she RESTS", tub.sister(0, 5), 0);
        tub.begin(0);
        doc.due("she walks TO", tub.sister(0, 5), 1);
        tub.go(1);
        doc.due("she walks BACK", tub.sister(0, 5), 2);
        tub.go(1);
        doc.due("she walks TO anew", tub.sister(0, 5), 1);
        tub.rest(0);
        doc.due("she RESTS anew", tub.sister(0, 5), 0);
    }

    private void walkIsPace() {
        doc.says(TERMS, "WALK is her PACE;");
        for (int pace = 1; pace <= 6; pace++) {
            doc.told("plain " + pace + " 9", "begin(0)", t -> t.begin(0), pace);
            doc.told("lazy " + pace + " 9", "begin(0)", t -> t.begin(0), pace);
        }
        SieveTub tub = begun("plain 1 9");
        tub.go(6);
        doc.due("ROUNDS", tub.sister(0, 8), 3);
        doc.due("of a PLAIN one also behind 3 ROUNDS", tub.sister(0, 6), 1);
        SieveTub lazy = begun("lazy 1 9");
        lazy.go(12);
        doc.due("ROUNDS", lazy.sister(0, 8), 3);
        doc.due("of a LAZY one also behind 3 ROUNDS", lazy.sister(0, 6), 1);
    }

    private void walkOfRunner() {
        doc.says(TERMS, "of a RUNNER 1 less (1 at least),");
        int[] walks = {0, 1, 1, 2, 3, 4, 5};
        for (int pace = 1; pace <= 6; pace++) {
            doc.told("runner " + pace + " 9", "begin(0)", t -> t.begin(0), walks[pace]);
        }
    }

    private void threeRounds() {
        doc.says(TERMS, "as long as she has done less than 3 ROUNDS, behind that 1 more.");
        int[] walks = {0, 1, 1, 2, 3, 4, 5};
        for (int pace = 1; pace <= 6; pace++) {
            SieveTub tub = begun("runner " + pace + " 9");
            int round = 2 * walks[pace];
            tub.go(2 * round);
            doc.due("behind 2 ROUNDS of PACE " + pace, tub.as(0, 2), walks[pace]);
            doc.due("her way then", tub.sister(0, 6), walks[pace]);
            tub.go(round - 1);
            doc.due("a minute ahead of the third's end", tub.as(0, 2), walks[pace]);
            doc.due("ROUNDS then", tub.sister(0, 8), 2);
            tub.go(1);
            doc.due("behind 3 ROUNDS of PACE " + pace, tub.as(0, 2), pace + 1);
            doc.due("her way then", tub.sister(0, 6), pace + 1);
            tub.go(2 * (pace + 1));
            doc.due("behind 4 ROUNDS of PACE " + pace, tub.sister(0, 6), pace + 1);
            doc.due("ROUNDS then", tub.sister(0, 8), 4);
        }
    }

    private void draws() {
        doc.says(TERMS, "She DRAWS: she walks TO it, WALK minutes, with her LOAD.");
        walker("of the least", begun("plain 1 1"), 1, 1, 1, 0);
        walker("of the most", begun("plain 6 40"), 1, 6, 40, 0);
        walker("of a RUNNER", begun("runner 6 40"), 1, 5, 40, 0);
    }

    /** DRIP as sieveAs() tells it, and as a minute takes it. */
    private void drip(String sieve, int want) {
        SieveTub tub = begun(sieve + ";plain 6 40");
        doc.due("sieveAs(0, 0) of " + sieve, tub.sieveAs(0, 0), want);
        tub.go(1);
        doc.due("drops left by " + sieve, tub.sister(0, 7), 40 - want);
    }

    private void dripOfOpen() {
        doc.says(TERMS, "DRIP of a SIEVE in a minute: LEAK;");
        drip("open 0", 0);
        drip("open 1", 1);
        drip("open 9", 9);
    }

    private void dripOfLined() {
        doc.says(TERMS, "of a LINED one half of it, cut;");
        drip("lined 0", 0);
        drip("lined 1", 0);
        drip("lined 2", 1);
        drip("lined 8", 4);
        drip("lined 9", 4);
    }

    private void dripOfDoubled() {
        doc.says(TERMS, "of a DOUBLED one 1 less than a LINED one (0 at least);");
        int[] drips = {0, 0, 0, 0, 1, 1, 2, 2, 3, 3};
        for (int leak = 0; leak <= 9; leak++) {
            drip("doubled " + leak, drips[leak]);
        }
    }

    private void dripOfTorn() {
        doc.says(TERMS, "of a TORN one LEAK and 2;");
        drip("torn 0", 2);
        drip("torn 1", 3);
        drip("torn 9", 11);
    }

    private void dripByMoss() {
        doc.says(TERMS, "half of that, cut, if it has MOSS");
        String[] sieves = {"open 0", "open 1", "open 2", "open 9", "lined 1", "lined 3", "lined 9",
            "doubled 2", "doubled 4", "doubled 9", "torn 0", "torn 1", "torn 9"};
        int[] drips = {0, 0, 1, 4, 0, 0, 2, 0, 0, 1, 1, 1, 5};
        for (int i = 0; i < sieves.length; i++) {
            SieveTub tub = begun(sieves[i] + ";plain 6 40");
            int without = tub.sieveAs(0, 0);
            tub.moss(0);
            tub.go(1);
            doc.due("drops left by " + sieves[i], tub.sister(0, 7), 40 - drips[i]);
            doc.due("DRIP without MOSS stays", tub.sieveAs(0, 0), without);
        }
    }

    private void thirtyMinutes() {
        doc.says(TERMS, "(for 30 MINUTES from that on in which it was given);");
        SieveTub tub = Check.tell("open 2;plain 6 40;plain 6 40");
        tub.begin(1);
        tub.go(5);
        doc.due("drops ahead of it", tub.sister(1, 7), 30);
        tub.moss(0);
        tub.moss(1);
        doc.due("to come in MINUTE 5", tub.sister(0, 9), 30);
        tub.go(1);
        doc.due("poured in MINUTE 5, the first of the 30", tub.count(7), 29);
        doc.due("to come in MINUTE 6", tub.sister(0, 9), 29);
        tub.go(27);
        tub.begin(0);
        int[] drops = {39, 38, 36, 34};
        int[] toCome = {1, 0, 0, 0};
        for (int m = 0; m < drops.length; m++) {
            tub.go(1);
            doc.due("drops behind MINUTE " + (33 + m), tub.sister(0, 7), drops[m]);
            doc.due("to come then", tub.sister(0, 9), toCome[m]);
        }
    }

    private void dripInFrost() {
        doc.says(TERMS, "none in FROST.");
        for (String sieve : new String[] {"open 9", "lined 9", "doubled 9", "torn 9", "torn 0"}) {
            SieveTub tub = begun(sieve + ";plain 6 40;frost 0 0");
            tub.go(1);
            doc.due("drops of " + sieve, tub.sister(0, 7), 40);
            doc.due("DRIP without FROST stays", tub.sieveAs(0, 0) > 0 ? 1 : 0, 1);
            SieveTub mossy = begun(sieve + ";plain 6 40;frost 0 0");
            mossy.moss(0);
            mossy.go(1);
            doc.due("drops of " + sieve + " with MOSS", mossy.sister(0, 7), 40);
            doc.due("MOSS runs out also in FROST", mossy.sister(0, 9), 29);
        }
    }

    private void dripIsLost() {
        doc.says(TERMS, "A MINUTE: of who walks TO it the DRIP is lost (0 drops at least are left), "
                + "a minute of her way is done;");
        int[] loads = {1, 10, 11, 12, 13};
        int[] left = {0, 0, 0, 1, 2};
        for (int i = 0; i < loads.length; i++) {
            SieveTub tub = begun("torn 9;plain 2 " + loads[i]);
            tub.go(1);
            walker("LOAD " + loads[i], tub, 1, 1, left[i], 0);
            tub.go(1);
            walker("LOAD " + loads[i] + ", poured", tub, 2, 2, 0, 0);
            doc.due("nothing is left to pour", tub.count(7), 0);
        }
        SieveTub once = begun("torn 9;plain 1 12");
        once.go(1);
        doc.due("also in the last minute", once.count(7), 1);
    }

    private void pours() {
        doc.says(TERMS, "is it the last, she pours what is left, and walks BACK, as long as she came "
                + "(a LAZY one 2 minutes more).");
        String[] texts = {"plain 1 9", "plain 6 9", "lazy 1 9", "lazy 6 9", "runner 1 9", "runner 2 9",
            "runner 6 9"};
        int[] came = {1, 6, 1, 6, 1, 1, 5};
        int[] back = {1, 6, 3, 8, 1, 1, 5};
        for (int i = 0; i < texts.length; i++) {
            SieveTub tub = begun("open 1;hole 0;" + texts[i]);
            if (came[i] > 1) {
                tub.go(came[i] - 1);
            }
            walker(texts[i] + ", the last minute", tub, 1, 1, 9 - came[i] + 1, 0);
            doc.due(texts[i] + ", poured ahead of it", tub.count(7), 0);
            tub.go(1);
            walker(texts[i] + ", poured", tub, 2, back[i], 0, 0);
            doc.due(texts[i] + ", poured", tub.count(7), 9 - came[i]);
        }
        SieveTub slow = begun("open 0;runner 1 9");
        slow.go(8);
        walker("a RUNNER's fourth", slow, 2, 2, 0, 3);
    }

    private void round() {
        doc.says(TERMS, "Of who walks BACK a minute is done; is it the last, that was a ROUND, and she "
                + "DRAWS anew (by her ROUNDS then).");
        SieveTub tub = begun("open 0;lazy 1 9");
        tub.go(3);
        walker("the last minute BACK", tub, 2, 1, 0, 0);
        tub.go(1);
        walker("a ROUND", tub, 1, 1, 9, 1);
        doc.due("not poured in it", tub.count(7), 9);
        SieveTub runner = begun("open 0;runner 2 9");
        runner.go(5);
        walker("the last minute of the third", runner, 2, 1, 0, 2);
        runner.go(1);
        walker("the fourth, by 3 ROUNDS", runner, 1, 3, 9, 3);
    }

    private void atMostHeight() {
        doc.says(TERMS, "LEVEL is more by all that was poured in it, at most HEIGHT;");
        int[][] loads = {{19, 0, 19}, {20, 0, 20}, {21, 0, 20}, {10, 9, 19}, {10, 10, 20}, {10, 11, 20},
            {40, 40, 20}};
        for (int[] load : loads) {
            String second = load[1] == 0 ? "" : ";plain 1 " + load[1];
            SieveTub tub = begun("open 0;tub 20;hole 0;plain 1 " + load[0] + second);
            doc.due("LEVEL by " + load[0] + " and " + load[1], tub.go(1), load[2]);
            doc.due("poured, also above HEIGHT", tub.count(7), load[0] + load[1]);
        }
        doc.due("of HEIGHT 1", begun("open 0;tub 1;hole 0;plain 1 40").go(1), 1);
        SieveTub high = begun("open 0;tub 99;hole 0;plain 1 40;plain 1 40;plain 1 20");
        doc.due("of HEIGHT 99", high.go(1), 99);
    }

    private void fullTimes() {
        doc.says(TERMS, "is it HEIGHT then, it is FULL (a time more).");
        int[] loads = {19, 20, 21};
        int[] times = {0, 1, 1};
        for (int i = 0; i < loads.length; i++) {
            SieveTub tub = begun("open 0;tub 20;hole 9;lazy 1 " + loads[i]);
            tub.go(1);
            doc.due("count(5) by " + loads[i], tub.count(5), times[i]);
            tub.go(1);
            doc.due("not FULL any more", tub.count(5), times[i]);
        }
        SieveTub stays = begun("open 0;tub 20;hole 0;lazy 1 20");
        for (int m = 1; m <= 4; m++) {
            stays.go(1);
            doc.due("FULL without pouring", stays.count(5), m);
        }
    }

    private void loses() {
        doc.says(TERMS, "Then it loses LEVEL times HOLE, by 20, what is left over counted as 1 more.");
        int[][] cases = {{0, 9, 0}, {1, 0, 1}, {1, 1, 0}, {1, 9, 0}, {2, 1, 1}, {2, 9, 1}, {3, 9, 1},
            {19, 1, 18}, {20, 1, 19}, {21, 1, 19}, {40, 1, 38}, {20, 9, 11}, {40, 9, 22}, {39, 9, 21},
            {40, 0, 40}, {10, 2, 9}, {11, 2, 9}};
        for (int[] c : cases) {
            SieveTub tub = begun("open 0;hole " + c[1] + ";plain 1 " + Math.max(1, c[0]));
            if (c[0] == 0) {
                tub.rest(0);
            }
            doc.due("LEVEL " + c[0] + " by HOLE " + c[1], tub.go(1), c[2]);
        }
        SieveTub most = begun("open 0;hole 9;tub 99;plain 1 40;plain 1 40;plain 1 40");
        doc.due("LEVEL 99 by HOLE 9", most.go(1), 54);
    }

    private void nextMinute() {
        doc.says(TERMS, "Then it is the next MINUTE.");
        SieveTub tub = new SieveTub();
        doc.due("at first", tub.count(1), 0);
        tub.go(1);
        doc.due("behind one", tub.count(1), 1);
        tub.go(99);
        doc.due("behind 99 more", tub.count(1), 100);
    }

    private void kindsOfSisters() {
        doc.says(TERMS, "KINDS of SISTERS are over one another: SISTER (0); PLAIN (1) under it; "
                + "RUNNER (2) is PLAIN; LAZY (3) is PLAIN.");
        SieveTub tub = Check.tell("plain 3 9;runner 3 9;lazy 3 9");
        int not = SieveTub.NOT;
        int[][] walks = {{3, 3, not, not}, {2, 2, 2, not}, {3, 3, not, 3}};
        for (int s = 0; s < 3; s++) {
            for (int kind = 0; kind <= 3; kind++) {
                doc.due("as(" + s + ", " + kind + ")", tub.as(s, kind), walks[s][kind]);
            }
        }
    }

    private void kindsOfSieves() {
        doc.says(TERMS, "KINDS of SIEVES: SIEVE (0); OPEN (1) under it; LINED (2) is OPEN; "
                + "DOUBLED (3) is LINED; TORN (4) is a SIEVE.");
        SieveTub tub = Check.tell("open 8;plain 1 9;lined 8;plain 1 9;doubled 8;plain 1 9;torn 8;plain 1 9");
        int not = SieveTub.NOT;
        int[][] drips = {{8, 8, not, not, not}, {4, 4, 4, not, not}, {3, 3, 3, 3, not},
            {10, not, not, not, 10}};
        for (int s = 0; s < 4; s++) {
            for (int kind = 0; kind <= 4; kind++) {
                doc.due("sieveAs(" + s + ", " + kind + ")", tub.sieveAs(s, kind), drips[s][kind]);
            }
        }
    }
}
