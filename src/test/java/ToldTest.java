/** Promises 1 to 8: a new object, and what is told. */
final class ToldTest {
    private static final Check CHECK = new Check("ToldTest");

    public static void main(String[] args) {
        newObject();
        write();
        erase();
        faultsOfWords();
        faultsOfNumbers();
        faultsOfClauses();
        faultsOfSixth();
        well();
        wellStartsAnew();
        whatStays();
        sister();
        as();
        sieveAs();
        CHECK.end();
    }

    private static void newObject() {
        SieveTub tub = new SieveTub();
        int[] want = {0, 0, 0, 50, 2, 0, 0, 0, 0, 0, 0};
        for (int what = 0; what < want.length; what++) {
            CHECK.due("1: count(" + what + ")", tub.count(what), want[what]);
        }
        CHECK.due("1: undo()", tub.undo(), SieveTub.NOT);
        CHECK.due("1: back(0)", tub.back(0), SieveTub.NOT);
        CHECK.due("1: sister(0, 0)", tub.sister(0, 0), SieveTub.UNKNOWN);
        Check.write(tub, "plain 1 1");
        tub.well();
        CHECK.due("1: the sieve at first", tub.sister(0, 3), 0);
        CHECK.due("1: its leak", tub.sister(0, 4), 3);
    }

    private static void write() {
        SieveTub tub = new SieveTub();
        CHECK.refused("2: write(-1)", tub, () -> tub.write(-1), SieveTub.OUTSIDE);
        CHECK.refused("2: write(256)", tub, () -> tub.write(256), SieveTub.OUTSIDE);
        CHECK.due("2: write(0)", tub.write(0), 1);
        CHECK.due("2: write(255)", tub.write(255), 2);
        for (int n = 3; n <= 160; n++) {
            CHECK.due("2: write(32)", tub.write(32), n);
        }
        CHECK.refused("2: the 161st", tub, () -> tub.write(32), SieveTub.FULL);
        CHECK.refused("2: OUTSIDE ahead of FULL", tub, () -> tub.write(256), SieveTub.OUTSIDE);
        CHECK.due("2: count(10)", tub.count(10), 160);
    }

    private static void erase() {
        SieveTub tub = new SieveTub();
        CHECK.due("3: erase()", tub.erase(), 0);
        Check.write(tub, "plain 0");
        CHECK.due("3: erase()", tub.erase(), 7);
        CHECK.due("3: count(10)", tub.count(10), 0);
        CHECK.due("3: fault()", tub.fault(), 0);
        Check.write(tub, "thaw");
        CHECK.due("3: fault()", tub.fault(), SieveTub.NONE);
    }

    private static void fault(String text, int want) {
        SieveTub tub = new SieveTub();
        Check.write(tub, text);
        CHECK.due("4: fault of '" + text + "'", tub.fault(), want);
        CHECK.due("4: letters of '" + text + "'", tub.count(10), text.length());
        if (want == SieveTub.NONE) {
            return;
        }
        CHECK.refused("5: well of '" + text + "'", tub, tub::well, SieveTub.NOT);
    }

    private static void faultsOfWords() {
        fault("", 0);
        fault("   ", 3);
        fault("well", -1);
        fault(" well ", -1);
        fault("wel", 0);
        fault("wells", 0);
        fault("Well", 0);
        fault("wEll", 0);
        fault("well1", 4);
        fault("well well", 5);
        fault("sieve 3", 0);
        fault("  sieve 3", 2);
        fault("3", 0);
        fault("plainrunner 1 1", 0);
        fault("pl ain 1 1", 0);
        fault("thaw 1", 5);
        fault("thaw" + (char) 0, 4);
        fault("thaw" + (char) 255, 4);
        fault("thaw" + (char) 9, 4);
        fault("thaw{", 4);
        fault("thaw`", 4);
        fault("tub/5", 3);
        fault("tub:5", 3);
        fault((char) 233 + "well", 0);
        for (String word : "well plain runner lazy open lined doubled torn tub hole frost thaw".split(" ")) {
            String numbers = word.matches("well|thaw") ? "" : word.matches("plain|runner|lazy|frost") ? " 1 1" : " 1";
            fault(word + numbers, -1);
            fault("x" + word.substring(1) + numbers, 0);
            fault(word.substring(0, word.length() - 1) + "x" + numbers, 0);
            fault(word + "x" + numbers, 0);
            fault(word.substring(1) + numbers, 0);
        }
        for (String word : "plain runner lazy".split(" ")) {
            fault(word + " 1 1", -1);
            fault(word + "6 40", -1);
            fault(word, word.length());
            fault(word + " 3", word.length() + 2);
            fault(word + " 3;", word.length() + 2);
            fault(word + " 0 1", word.length() + 1);
            fault(word + " 7 1", word.length() + 1);
            fault(word + " 6 0", word.length() + 3);
            fault(word + " 6 41", word.length() + 3);
            fault(word + " 6 1 1", word.length() + 5);
        }
        for (String word : "open lined doubled torn hole".split(" ")) {
            fault(word + " 0", -1);
            fault(word + "9", -1);
            fault(word + " 10", word.length() + 1);
            fault(word, word.length());
            fault(word + " 9 9", word.length() + 3);
        }
    }

    private static void faultsOfNumbers() {
        fault("tub 1", -1);
        fault("tub 99", -1);
        fault("tub 0", 4);
        fault("tub 00", 4);
        fault("tub 100", 4);
        fault("tub 007", 4);
        fault("tub 07", -1);
        fault("tub 4294967297", 4);
        fault("hole 09", -1);
        fault("hole 010", 5);
        fault("open -1", 5);
        fault("plain 320", 6);
        fault("plain 3 200", 8);
        fault("plain 03 04", -1);
        fault("frost 0 0", -1);
        fault("frost 0 99", -1);
        fault("frost 99 99", -1);
        fault("frost 7 7", -1);
        fault("frost 7 6", 8);
        fault("frost 7 10", -1);
        fault("frost 99 98", 9);
        fault("frost 100 100", 6);
        fault("frost 5 100", 8);
        fault("frost 5", 7);
        fault("frost", 5);
    }

    private static void faultsOfClauses() {
        fault("thaw;", 5);
        fault("thaw; ", 6);
        fault("thaw;;thaw", 5);
        fault(";thaw", 0);
        fault("thaw thaw", 5);
        fault("tub 50plain 1 1", 6);
        fault("tub 5,thaw", 5);
        fault("tub5;hole3 ; frost0 9;thaw", -1);
        String fourteen = "thaw;".repeat(13) + "thaw";
        fault(fourteen, -1);
        fault(fourteen + " ", -1);
        fault(fourteen + ";", 69);
        fault(fourteen + ";thaw", 69);
        fault(fourteen + " ;thaw", 70);
        fault("thaw;".repeat(13), 65);
        fault("thaw" + " ".repeat(156), -1);
        fault(" ".repeat(156) + "thaw", -1);
        fault(" ".repeat(157) + "tub", 160);
        fault(" ".repeat(160), 160);
    }

    private static void faultsOfSixth() {
        String five = "lazy 1 1;plain 1 1;runner 1 1;lazy 1 1;plain 1 1";
        fault(five, -1);
        fault(five + "; runner 1 1", 50);
        fault(five + "; runner 0", 50);
        fault(five + ";well;plain 1 1", -1);
        SieveTub tub = Check.tell(five);
        Check.write(tub, "open 3; plain 1 1");
        CHECK.due("4: a sixth in a later text", tub.fault(), 8);
        CHECK.refused("5: a sixth", tub, tub::well, SieveTub.NOT);
        tub.erase();
        Check.write(tub, "open 3");
        CHECK.due("4: none more", tub.fault(), SieveTub.NONE);
        tub.erase();
        Check.write(tub, "well;" + five + ";lazy 1 1");
        CHECK.due("4: a sixth behind well", tub.fault(), 5 + five.length() + 1);
    }

    private static void well() {
        SieveTub tub = new SieveTub();
        CHECK.refused("5: an empty text", tub, tub::well, SieveTub.NOT);
        Check.write(tub, " plain 2 9 ; tub 70;hole 5;torn 4; lazy 6 40");
        CHECK.due("5: well()", tub.well(), 5);
        CHECK.due("5: the text is empty", tub.count(10), 0);
        CHECK.due("5: SISTERS", tub.count(0), 2);
        CHECK.due("5: HEIGHT", tub.count(3), 70);
        CHECK.due("5: HOLE", tub.count(4), 5);
        CHECK.due("5: sieve ahead of torn", tub.sister(0, 3), 0);
        CHECK.due("5: sieve behind torn", tub.sister(1, 3), 3);
        Check.write(tub, "thaw");
        CHECK.due("5: one clause", tub.well(), 1);
        Check.write(tub, "thaw;".repeat(13) + "thaw");
        CHECK.due("5: fourteen clauses", tub.well(), 14);
        Check.write(tub, "plain 1 1;tub 0");
        CHECK.due("5: none of the clauses is done", tub.well(), SieveTub.NOT);
        CHECK.due("5: SISTERS", tub.count(0), 2);
        CHECK.due("5: the text stays", tub.count(10), 15);
    }

    /** All that minutes did is gone behind a text, even one that tells nothing new. */
    private static void wellStartsAnew() {
        SieveTub tub = Check.tell("open 0;plain 1 40;lazy 1 40;tub 30;hole 5");
        tub.begin(0);
        tub.begin(1);
        tub.moss(1);
        tub.smear(3);
        tub.keep(0);
        tub.keep(1);
        tub.go(9);
        tub.seen(1, 1);
        CHECK.due("5: HOLE ahead", tub.count(4), 2);
        CHECK.due("5: ROUNDS ahead", tub.sister(0, 8), 4);
        Check.write(tub, "thaw");
        tub.well();
        int[] want = {2, 0, 0, 30, 5, 0, 0, 0, 0, 0, 0};
        for (int what = 0; what < want.length; what++) {
            CHECK.due("5: count(" + what + ") behind", tub.count(what), want[what]);
        }
        for (int s = 0; s < 2; s++) {
            for (int what = 5; what <= 9; what++) {
                CHECK.due("5: sister(" + s + ", " + what + ") behind", tub.sister(s, what), 0);
            }
        }
        CHECK.due("5: undo()", tub.undo(), SieveTub.NOT);
        CHECK.due("5: back(0)", tub.back(0), SieveTub.NOT);
        CHECK.due("5: back(1)", tub.back(1), SieveTub.NOT);
    }

    private static void whatStays() {
        SieveTub tub = Check.tell("plain 2 9;tub 70;hole 5;frost 0 9;doubled 7");
        Check.write(tub, "runner 3 8");
        tub.well();
        CHECK.due("5: SISTERS stay", tub.count(0), 2);
        CHECK.due("5: HEIGHT stays", tub.count(3), 70);
        CHECK.due("5: HOLE stays", tub.count(4), 5);
        CHECK.due("5: the sieve told last stays", tub.sister(1, 3), 2);
        CHECK.due("5: its leak stays", tub.sister(1, 4), 7);
        tub.begin(0);
        tub.go(1);
        CHECK.due("5: FROST stays", tub.sister(0, 7), 9);
        Check.write(tub, "frost 1 1");
        tub.well();
        tub.begin(0);
        tub.go(1);
        CHECK.due("5: FROST told anew", tub.sister(0, 7), 6);
        Check.write(tub, "frost 0 0;thaw");
        tub.well();
        tub.begin(0);
        tub.go(1);
        CHECK.due("5: thaw", tub.sister(0, 7), 6);
        Check.write(tub, "frost 0 9;well;plain 4 7");
        CHECK.due("5: well() of well", tub.well(), 3);
        int[] want = {1, 0, 0, 50, 2};
        for (int what = 0; what < want.length; what++) {
            CHECK.due("5: count(" + what + ") as at first", tub.count(what), want[what]);
        }
        CHECK.due("5: sieve as at first", tub.sister(0, 3), 0);
        CHECK.due("5: leak as at first", tub.sister(0, 4), 3);
        tub.begin(0);
        tub.go(1);
        CHECK.due("5: no FROST as at first", tub.sister(0, 7), 4);
    }

    private static void sister() {
        SieveTub tub = Check.tell("plain 6 40;lined 9;runner 2 30;torn 0;lazy 5 1;doubled 4;lazy 1 2");
        int[][] want = {{0, 6, 40, 0, 3}, {1, 2, 30, 1, 9}, {2, 5, 1, 3, 0}, {2, 1, 2, 2, 4}};
        for (int s = 0; s < want.length; s++) {
            for (int what = 0; what < 5; what++) {
                CHECK.due("6: sister(" + s + ", " + what + ")", tub.sister(s, what), want[s][what]);
            }
            for (int what = 5; what <= 9; what++) {
                CHECK.due("6: sister(" + s + ", " + what + ")", tub.sister(s, what), 0);
            }
        }
        tub.begin(0);
        tub.moss(0);
        tub.go(1);
        int[] walks = {1, 5, 39, 0, 29};
        for (int what = 5; what <= 9; what++) {
            CHECK.due("6: sister(0, " + what + ")", tub.sister(0, what), walks[what - 5]);
        }
        CHECK.due("6: sister(4, 0)", tub.sister(4, 0), SieveTub.UNKNOWN);
        CHECK.due("6: sister(-1, 0)", tub.sister(-1, 0), SieveTub.UNKNOWN);
        CHECK.due("6: UNKNOWN ahead of OUTSIDE", tub.sister(4, 10), SieveTub.UNKNOWN);
        CHECK.due("6: sister(0, 10)", tub.sister(0, 10), SieveTub.OUTSIDE);
        CHECK.due("6: sister(0, -1)", tub.sister(0, -1), SieveTub.OUTSIDE);
    }

    private static void as() {
        SieveTub tub = Check.tell("plain 3 9;runner 3 9;lazy 4 9;runner 1 9;hole 0");
        int not = SieveTub.NOT;
        int[][] want = {{3, 3, not, not}, {2, 2, 2, not}, {4, 4, not, 4}, {1, 1, 1, not}};
        for (int s = 0; s < want.length; s++) {
            for (int kind = 0; kind < 4; kind++) {
                CHECK.due("7: as(" + s + ", " + kind + ")", tub.as(s, kind), want[s][kind]);
            }
        }
        CHECK.due("7: as(4, 0)", tub.as(4, 0), SieveTub.UNKNOWN);
        CHECK.due("7: as(-1, 9)", tub.as(-1, 9), SieveTub.UNKNOWN);
        CHECK.due("7: as(0, 4)", tub.as(0, 4), SieveTub.OUTSIDE);
        CHECK.due("7: as(0, -1)", tub.as(0, -1), SieveTub.OUTSIDE);
        tub.begin(1);
        tub.begin(3);
        tub.go(5);
        CHECK.due("7: behind 2 ROUNDS", tub.as(3, 0), 1);
        tub.go(1);
        CHECK.due("7: behind 3 ROUNDS", tub.as(3, 2), 2);
        CHECK.due("7: behind 1 ROUND", tub.as(1, 1), 2);
        tub.go(6);
        CHECK.due("7: behind 3 ROUNDS", tub.as(1, 1), 4);
    }

    private static void sieveAs() {
        SieveTub tub = Check.tell("open 9;plain 1 9;lined 9;plain 1 9;doubled 9;plain 1 9;"
                + "torn 9;plain 1 9;doubled 1;plain 1 9;frost 0 99");
        int not = SieveTub.NOT;
        int[][] want = {{9, 9, not, not, not}, {4, 4, 4, not, not}, {3, 3, 3, 3, not},
            {11, not, not, not, 11}, {0, 0, 0, 0, not}};
        tub.moss(0);
        for (int s = 0; s < want.length; s++) {
            for (int kind = 0; kind < 5; kind++) {
                CHECK.due("8: sieveAs(" + s + ", " + kind + ")", tub.sieveAs(s, kind), want[s][kind]);
            }
        }
        CHECK.due("8: sieveAs(5, 0)", tub.sieveAs(5, 0), SieveTub.UNKNOWN);
        CHECK.due("8: sieveAs(-1, 5)", tub.sieveAs(-1, 5), SieveTub.UNKNOWN);
        CHECK.due("8: sieveAs(0, 5)", tub.sieveAs(0, 5), SieveTub.OUTSIDE);
        CHECK.due("8: sieveAs(0, -1)", tub.sieveAs(0, -1), SieveTub.OUTSIDE);
        SieveTub more = Check.tell("open 0;plain 1 9;lined 1;plain 1 9;doubled 3;plain 1 9;"
                + "torn 0;plain 1 9;doubled 4;plain 1 9");
        int[] drips = {0, 0, 0, 2, 1};
        for (int s = 0; s < drips.length; s++) {
            CHECK.due("8: sieveAs(" + s + ", 0)", more.sieveAs(s, 0), drips[s]);
        }
    }
}
