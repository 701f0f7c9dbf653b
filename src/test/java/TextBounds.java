/** What the document says of a new object and of texts, up to its part 2: a test for each sentence. */
final class TextBounds {
    private static final String[] SISTER_WORDS = {"plain", "runner", "lazy"};
    private static final String[] SIEVE_WORDS = {"open", "lined", "doubled", "torn"};
    private static final String FIVE = "lazy 1 1;plain 1 1;runner 1 1;lazy 1 1;plain 1 1";
    private static final String FIRST = "What it is";
    private static final String TERMS = "Terms";

    private final Sentences doc;

    TextBounds(Sentences doc) {
        this.doc = doc;
    }

    void all() {
        calls();
        terms();
        textAndClauses();
        clauses();
        letters();
        faults();
        behindThem();
    }

    private void terms() {
        sisters();
        kindsOfSisters();
        pace();
        load();
        kindsOfSieves();
        leak();
        latestLeak();
        height();
        hole();
        frostAtFirst();
    }

    private void textAndClauses() {
        lettersAtMost();
        oneToFourteen();
        emptyText();
        behindTheFourteenth();
        wordsAsWritten();
    }

    private void clauses() {
        wellClause();
        sisterClause();
        sieveClause();
        frostClause();
        frostBothCounted();
        thawClause();
    }

    private void letters() {
        smallLetters();
        digits();
        blanks();
        blanksNeeded();
        earlierTextsStay();
    }

    private void faults() {
        firstToken();
        numberOutOfBounds();
        endTooSoon();
        inTheirOrder();
    }

    private void behindThem() {
        minuteZero();
        allRest();
        tubIsEmpty();
        holeAsTold();
        nobodyHasMoss();
        neverFull();
        nothingSeen();
        nothingKept();
    }

    /** The 512th call answers as the first ones do. */
    private void calls() {
        doc.says(FIRST, "An object is used for at most 512 calls after it has been made; "
                + "what later calls answer is free.");
        String text = "open 0;plain 1 1;tub 99;hole 0";
        SieveTub tub = Check.tell(text);
        tub.begin(0);
        int calls = text.length() + 2;
        for (; calls < 511; calls++) {
            tub.go(1);
        }
        doc.due("count(1) as the 512th call", tub.count(1), 511 - text.length() - 2);
        SieveTub undone = new SieveTub();
        for (int i = 0; i < 255; i++) {
            undone.go(99);
            undone.undo();
        }
        undone.go(7);
        doc.due("undo() as the 512th call", undone.undo(), 0);
        SieveTub written = new SieveTub();
        for (int i = 0; i < 511; i++) {
            written.write(32);
        }
        doc.due("write() as the 512th call", written.write(32), SieveTub.FULL);
    }

    private void sisters() {
        doc.says(FIRST, "1 SISTERS are 0, 1 .. as they come, 5 at most (none at first)");
        SieveTub none = new SieveTub();
        doc.due("count(0) at first", none.count(0), 0);
        doc.due("sister(0, 0) at first", none.sister(0, 0), SieveTub.UNKNOWN);
        SieveTub five = Check.tell("plain 1 1;plain 1 2;plain 1 3;plain 1 4;plain 1 5");
        doc.due("count(0)", five.count(0), 5);
        for (int s = 0; s < 5; s++) {
            doc.due("LOAD of " + s + ", as they come", five.sister(s, 2), s + 1);
        }
        doc.due("sister(4, 0)", five.sister(4, 0), 0);
        doc.due("sister(5, 0)", five.sister(5, 0), SieveTub.UNKNOWN);
        doc.due("sister(-1, 0)", five.sister(-1, 0), SieveTub.UNKNOWN);
        Check.write(five, "plain 1 6");
        doc.due("fault() of a sixth", five.fault(), 0);
        SieveTub four = Check.tell("plain 1 1;plain 1 2;plain 1 3;plain 1 4");
        doc.due("sister(4, 0) of four", four.sister(4, 0), SieveTub.UNKNOWN);
        Check.write(four, "plain 1 5");
        doc.due("fault() of a fifth", four.fault(), SieveTub.NONE);
    }

    private void kindsOfSisters() {
        doc.says(FIRST, "of a KIND, 0 PLAIN, 1 RUNNER, 2 LAZY");
        for (int kind = 0; kind < 3; kind++) {
            doc.told(SISTER_WORDS[kind] + " 1 1", "sister(0, 0)", t -> t.sister(0, 0), kind);
        }
    }

    private void pace() {
        doc.says(FIRST, "of PACE (1 ..");
        doc.also(TERMS, "6 minutes)");
        for (String word : SISTER_WORDS) {
            doc.faults(word + " 0 5", word.length() + 1);
            doc.told(word + " 1 5", "sister(0, 1)", t -> t.sister(0, 1), 1);
            doc.told(word + " 6 5", "sister(0, 1)", t -> t.sister(0, 1), 6);
            doc.faults(word + " 7 5", word.length() + 1);
            doc.faults(word + " 99 5", word.length() + 1);
        }
    }

    private void load() {
        doc.says(TERMS, "who draw a LOAD (1 .. 40 drops)");
        for (String word : SISTER_WORDS) {
            doc.faults(word + " 5 0", word.length() + 3);
            doc.told(word + " 5 1", "sister(0, 2)", t -> t.sister(0, 2), 1);
            doc.told(word + " 5 40", "sister(0, 2)", t -> t.sister(0, 2), 40);
            doc.faults(word + " 5 41", word.length() + 3);
            doc.faults(word + " 5 99", word.length() + 3);
        }
    }

    private void kindsOfSieves() {
        doc.says(TERMS, "each with a SIEVE, of a KIND, 0 OPEN, 1 LINED, 2 DOUBLED, 3 TORN");
        for (int kind = 0; kind < 4; kind++) {
            doc.told(SIEVE_WORDS[kind] + " 5;plain 1 1", "sister(0, 3)", t -> t.sister(0, 3), kind);
        }
    }

    private void leak() {
        doc.says(TERMS, "of a LEAK (0 .. 9;");
        for (String word : SIEVE_WORDS) {
            doc.told(word + " 0;plain 1 1", "sister(0, 4)", t -> t.sister(0, 4), 0);
            doc.told(word + " 9;plain 1 1", "sister(0, 4)", t -> t.sister(0, 4), 9);
            doc.faults(word + " 10;plain 1 1", word.length() + 1);
            doc.faults(word + " 99;plain 1 1", word.length() + 1);
        }
    }

    private void latestLeak() {
        doc.says(TERMS, "that of the latest clause that told one, OPEN of 3 at first)");
        doc.told("plain 1 1", "sister(0, 3) at first", t -> t.sister(0, 3), 0);
        doc.told("plain 1 1", "sister(0, 4) at first", t -> t.sister(0, 4), 3);
        doc.told("torn 5;lined 7;tub 9;plain 1 1", "sister(0, 3)", t -> t.sister(0, 3), 1);
        doc.told("torn 5;lined 7;tub 9;plain 1 1", "sister(0, 4)", t -> t.sister(0, 4), 7);
    }

    private void height() {
        doc.says(TERMS, "THE TUB is of a HEIGHT (1 .. 99; 50 at first)");
        doc.due("count(3) at first", new SieveTub().count(3), 50);
        doc.faults("tub 0", 4);
        doc.told("tub 1", "count(3)", t -> t.count(3), 1);
        doc.told("tub 99", "count(3)", t -> t.count(3), 99);
        doc.faults("tub 100", 4);
    }

    private void hole() {
        doc.says(TERMS, "with a HOLE (0 .. 9; 2 at first)");
        doc.due("count(4) at first", new SieveTub().count(4), 2);
        doc.told("hole 0", "count(4)", t -> t.count(4), 0);
        doc.told("hole 9", "count(4)", t -> t.count(4), 9);
        doc.faults("hole 10", 5);
    }

    private void frostAtFirst() {
        doc.says(TERMS, "FROST is from a MINUTE to one (none at first).");
        SieveTub tub = Check.tell("open 1;plain 6 40");
        tub.begin(0);
        for (int m = 0; m < 5; m++) {
            tub.go(1);
            doc.due("drops behind minute " + m, tub.sister(0, 7), 39 - m);
        }
        SieveTub last = Check.tell("open 1;plain 6 40");
        last.go(99);
        last.begin(0);
        last.go(1);
        doc.due("drops behind minute 99", last.sister(0, 7), 39);
    }

    private void lettersAtMost() {
        doc.says(TERMS, "THE TEXT is a row of letters, 160 at most");
        SieveTub tub = new SieveTub();
        for (int n = 1; n <= 160; n++) {
            doc.due("the letter " + n, tub.write(n == 160 ? 'w' : ' '), n);
        }
        doc.due("fault() reads the 160th", tub.fault(), 159);
        doc.refused("the 161st", () -> Sentences.written(" ".repeat(156) + "thaw"), t -> t.write('x'),
                SieveTub.FULL);
        doc.takes(" ".repeat(156) + "thaw");
        doc.takes("thaw" + " ".repeat(156));
    }

    private void oneToFourteen() {
        doc.says(TERMS, "CLAUSES with ; between, 1 to 14");
        doc.told("thaw", "count(10)", t -> t.count(10), 0);
        doc.due("well() of 1", Sentences.written("thaw").well(), 1);
        doc.due("well() of 2", Sentences.written("thaw;thaw").well(), 2);
        doc.due("well() of 13", Sentences.written("thaw" + ";thaw".repeat(12)).well(), 13);
        doc.due("well() of 14", Sentences.written("thaw" + ";thaw".repeat(13)).well(), 14);
        doc.faults("thaw" + ";thaw".repeat(14), 69);
        doc.faults("thaw,thaw", 4);
        doc.faults("thaw thaw", 5);
        doc.faults("thaw;;thaw", 5);
        doc.faults(";thaw", 0);
    }

    private void emptyText() {
        doc.says(TERMS, "(an empty TEXT ends too soon;");
        doc.faults("", 0);
        doc.faults(" ", 1);
        doc.faults(" ".repeat(160), 160);
    }

    private void behindTheFourteenth() {
        doc.says(TERMS, "behind the 14th no ; can stand)");
        String thirteen = "thaw" + ";thaw".repeat(12);
        doc.faults(thirteen + ";", 65);
        doc.faults(thirteen + ";thaw;", 69);
        doc.faults(thirteen + ";thaw ; ", 70);
        doc.takes(thirteen + ";thaw ");
        doc.faults(thirteen + ";thaw 1", 70);
    }

    private void wordsAsWritten() {
        doc.says(TERMS, "each is one of: well. plain P L. runner P L. lazy P L. open K. lined K. "
                + "doubled K. torn K. tub H. hole N. frost A B. thaw. (As written here, without points;");
        String[] taken = {"well", "plain 1 1", "runner 1 1", "lazy 1 1", "open 1", "lined 1",
            "doubled 1", "torn 1", "tub 1", "hole 1", "frost 1 1", "thaw"};
        for (String clause : taken) {
            doc.takes(clause);
            doc.faults(clause + ".", clause.length());
            doc.faults(clause + " 1", clause.length() + 1);
            String word = clause.split(" ")[0];
            doc.faults(clause.replace(word, word + "s"), 0);
            doc.faults(clause.replace(word, word.substring(0, word.length() - 1)), 0);
            doc.faults(clause.replace(word, word.toUpperCase()), 0);
            doc.faults("x" + clause.substring(1), 0);
            if (clause.contains(" ")) {
                int last = clause.lastIndexOf(' ');
                doc.faults(clause.substring(0, last), last);
                doc.faults(clause.substring(0, last) + ";thaw", last);
            }
        }
        doc.faults("sieve 1", 0);
        doc.faults("sister 1 1", 0);
        doc.faults("1", 0);
    }

    private void wellClause() {
        doc.says(TERMS, "well: all as at first;");
        SieveTub tub = Check.tell("torn 9;plain 2 9;tub 70;hole 5;frost 0 99");
        Check.write(tub, "well");
        doc.due("well()", tub.well(), 1);
        doc.same("all of it", Probe.usedUp(tub), Probe.usedUp(new SieveTub()));
        SieveTub five = Check.tell(FIVE);
        Check.write(five, "well;open 0;" + FIVE);
        doc.due("five anew behind it", five.well(), 7);
        doc.due("count(0)", five.count(0), 5);
        doc.due("together(1, -1) of five", five.together(1, SieveTub.NONE), 5);
        five.begin(4);
        five.moss(4);
        five.level(99);
        Check.write(five, "well");
        five.well();
        doc.same("all of it behind five", Probe.usedUp(five), Probe.usedUp(new SieveTub()));
    }

    private void sisterClause() {
        doc.says(TERMS, "plain ..: a SISTER more of PACE P, LOAD L, a sixth cannot stand there (at its word);");
        doc.told("lazy 4 17", "sister(0, 1)", t -> t.sister(0, 1), 4);
        doc.told("lazy 4 17", "sister(0, 2)", t -> t.sister(0, 2), 17);
        doc.takes(FIVE);
        for (String word : SISTER_WORDS) {
            doc.faults(FIVE + "; " + word + " 1 1", FIVE.length() + 2);
            doc.faults(FIVE + "; " + word + " 0", FIVE.length() + 2);
            doc.faults(FIVE + "; " + word, FIVE.length() + 2);
            doc.refused("a sixth in a later text", () -> {
                SieveTub tub = Check.tell(FIVE);
                Check.write(tub, "thaw;" + word + " 1 1");
                return tub;
            }, SieveTub::well, SieveTub.NOT);
        }
        doc.takes(FIVE + ";well;plain 1 1");
        doc.faults(FIVE + ";well;" + FIVE + ";lazy 1 1", 2 * FIVE.length() + 7);
    }

    private void sieveClause() {
        doc.says(TERMS, "open ..: SIEVES of SISTERS told from here on are so, of LEAK K;");
        SieveTub tub = Check.tell("plain 1 1;torn 4;plain 1 1;plain 1 1;open 0;plain 1 1;lined 9");
        int[] kinds = {0, 3, 3, 0};
        int[] leaks = {3, 4, 4, 0};
        for (int s = 0; s < 4; s++) {
            doc.due("sister(" + s + ", 3)", tub.sister(s, 3), kinds[s]);
            doc.due("sister(" + s + ", 4)", tub.sister(s, 4), leaks[s]);
        }
    }

    private void frostClause() {
        doc.says(TERMS, "frost: from MINUTE A (0 .. 99) to B (A .. 99)");
        doc.takes("frost 0 0");
        doc.takes("frost 0 99");
        doc.takes("frost 99 99");
        doc.faults("frost 100 100", 6);
        doc.faults("frost 99 100", 9);
        doc.faults("frost 0 100", 8);
        doc.faults("frost 1 0", 8);
        doc.takes("frost 1 1");
        doc.takes("frost 9 10");
        doc.faults("frost 99 98", 9);
        doc.faults("frost 50 49", 9);
        doc.takes("frost 50 50");
    }

    private void frostBothCounted() {
        doc.says(TERMS, "both counted;");
        walkInFrost("frost 2 4", 1, 39, 39, 39, 39, 38);
        walkInFrost("frost 0 0", 0, 40, 39, 38, 37, 36);
        walkInFrost("frost 3 3", 0, 39, 38, 37, 37, 36);
        walkInFrost("frost 99 99", 97, 39, 38, 38, 37, 36);
        walkInFrost("frost 0 99", 98, 40, 40, 39, 38, 37);
    }

    /** Her drops behind each of the minutes from that one on. */
    private void walkInFrost(String frost, int minute, int... drops) {
        SieveTub tub = Check.tell("open 1;plain 6 40;" + frost);
        if (minute > 0) {
            tub.go(minute);
        }
        tub.begin(0);
        for (int m = 0; m < drops.length; m++) {
            tub.go(1);
            doc.due(frost + ", drops behind minute " + (minute + m), tub.sister(0, 7), drops[m]);
        }
    }

    private void thawClause() {
        doc.says(TERMS, "thaw: no FROST;");
        walkInFrost("frost 0 99;thaw", 0, 39, 38, 37, 36, 35);
        walkInFrost("thaw;frost 1 1", 0, 39, 39, 38, 37, 36);
        walkInFrost("thaw", 0, 39, 38, 37, 36, 35);
    }

    private void smallLetters() {
        doc.says(TERMS, "small letters a .. z,");
        doc.takes("lazy 1 1");
        doc.takes("thaw");
        doc.faults("thaw`", 4);
        doc.faults("thaw{", 4);
        doc.faults("thawa", 0);
        doc.faults("thawz", 0);
        doc.faults("thawA", 4);
        doc.faults("thawZ", 4);
        doc.faults("Thaw", 0);
        doc.faults("tHaw", 0);
        doc.faults("thaw" + (char) 228, 4);
    }

    private void digits() {
        doc.says(TERMS, "numbers of 1 or 2 digits,");
        doc.faults("tub", 3);
        doc.faults("tub ", 4);
        doc.told("tub 9", "count(3)", t -> t.count(3), 9);
        doc.told("tub 90", "count(3)", t -> t.count(3), 90);
        doc.told("tub 09", "count(3)", t -> t.count(3), 9);
        doc.told("hole 00", "count(4)", t -> t.count(4), 0);
        doc.faults("tub 009", 4);
        doc.faults("tub 900", 4);
        doc.faults("hole 000", 5);
        doc.faults("tub 4294967297", 4);
        doc.faults("tub /", 4);
        doc.faults("tub :", 4);
        doc.faults("tub -1", 4);
        doc.faults("tub +1", 4);
        doc.faults("tub 5/", 5);
        doc.faults("tub 5:", 5);
    }

    private void blanks() {
        doc.says(TERMS, "blanks (32) may stand ahead of, between and behind TOKENS,");
        doc.takes(" thaw");
        doc.takes("thaw ");
        doc.takes("   plain   1   1   ;   thaw   ");
        for (int other : new int[] {0, 9, 10, 13, 31, 33, 160, 255}) {
            doc.faults((char) other + "thaw", 0);
            doc.faults("thaw" + (char) other, 4);
            doc.faults("tub" + (char) other + "5", 3);
        }
        doc.faults("th aw", 0);
        doc.faults("tub 5 5", 6);
    }

    private void blanksNeeded() {
        doc.says(TERMS, "none is needed but between two words, two numbers;");
        doc.takes("plain1 1;open3;tub5;thaw");
        doc.takes("frost1 1;well;hole0");
        doc.faults("plain11", 5);
        doc.faults("plain1", 6);
        doc.faults("frost11", 7);
        doc.faults("plain111", 5);
        doc.faults("thawwell", 0);
        doc.faults("thaw well", 5);
        doc.faults("tub5well", 4);
    }

    private void earlierTextsStay() {
        doc.says(TERMS, "what earlier texts told stays, the SIEVE told last, too.)");
        SieveTub tub = Check.tell("plain 2 9;tub 70;hole 5;frost 0 0;doubled 7");
        Check.write(tub, "runner 3 8");
        doc.due("well()", tub.well(), 1);
        doc.due("count(0)", tub.count(0), 2);
        doc.due("sister(0, 1)", tub.sister(0, 1), 2);
        doc.due("count(3)", tub.count(3), 70);
        doc.due("count(4)", tub.count(4), 5);
        doc.due("sister(1, 3)", tub.sister(1, 3), 2);
        doc.due("sister(1, 4)", tub.sister(1, 4), 7);
        tub.begin(0);
        tub.go(1);
        doc.due("drops in the FROST", tub.sister(0, 7), 9);
        SieveTub refused = Check.tell("lined 5");
        Check.write(refused, "torn 9;tub 0");
        doc.due("well() of a fault", refused.well(), SieveTub.NOT);
        refused.erase();
        Check.write(refused, "plain 1 1");
        refused.well();
        doc.due("the SIEVE told last is not of the text with a fault", refused.sister(0, 3), 1);
        doc.due("nor its LEAK", refused.sister(0, 4), 5);
    }

    private void firstToken() {
        doc.says(TERMS, "A FAULT is at the first TOKEN (a row of small letters, a row of digits, "
                + "any other letter) that cannot stand there");
        doc.faults("sieve 0;tub 0", 0);
        doc.faults("  sieve", 2);
        doc.faults("tub 0;sieve", 4);
        doc.faults("tub 12345", 4);
        doc.faults("tub ;;", 4);
        doc.faults("tub five", 4);
        doc.faults("tub 5;;5", 6);
        doc.faults("tub 5!!", 5);
        doc.faults("12 tub", 0);
        doc.faults("!tub", 0);
        doc.faults("plain 1;1", 7);
        doc.faults("thaw;12", 5);
    }

    private void numberOutOfBounds() {
        doc.says(TERMS, "(a number out of its bounds, of more digits, also)");
        doc.faults("plain 7 41", 6);
        doc.faults("plain 6 41", 8);
        doc.faults("plain 006 40", 6);
        doc.faults("plain 6 040", 8);
        doc.faults("frost 5 4", 8);
        doc.faults("frost 5 100", 8);
        doc.faults("thaw; hole 10", 11);
    }

    private void endTooSoon() {
        doc.says(TERMS, "or at the end, if it comes too soon.");
        doc.faults("plain", 5);
        doc.faults("plain ", 6);
        doc.faults("plain 1", 7);
        doc.faults("plain 1  ", 9);
        doc.faults("frost 1", 7);
        doc.faults("hole", 4);
        doc.faults("thaw;", 5);
        doc.faults("thaw;  ", 7);
        doc.faults(" ".repeat(157) + "tub", 160);
        doc.takes(" ".repeat(156) + "tub5");
    }

    private void inTheirOrder() {
        doc.says(TERMS, "CLAUSES are done in their order.");
        doc.told("tub 9;tub 8;tub 7", "count(3)", t -> t.count(3), 7);
        doc.told("plain 1 1;well", "count(0)", t -> t.count(0), 0);
        doc.told("well;plain 1 1", "count(0)", t -> t.count(0), 1);
        doc.told("tub 7;well", "count(3)", t -> t.count(3), 50);
        doc.told("hole 1;hole 9;hole 0", "count(4)", t -> t.count(4), 0);
    }

    /** An object in which minutes did all that they can, told a text that tells nothing new. */
    private static SieveTub toldAnew() {
        SieveTub tub = Check.tell("open 0;plain 1 40;lazy 1 40;tub 30;hole 5");
        tub.begin(0);
        tub.begin(1);
        tub.moss(1);
        tub.smear(3);
        tub.keep(0);
        tub.keep(1);
        tub.go(9);
        tub.seen(1, 1);
        Check.write(tub, "thaw");
        tub.well();
        return tub;
    }

    private void minuteZero() {
        doc.says(TERMS, "Behind them it is MINUTE 0,");
        doc.due("count(1)", toldAnew().count(1), 0);
    }

    private void allRest() {
        doc.says(TERMS, "all REST,");
        doc.due("count(6)", toldAnew().count(6), 0);
        for (int s = 0; s < 2; s++) {
            for (int what = 5; what <= 8; what++) {
                doc.due("sister(" + s + ", " + what + ")", toldAnew().sister(s, what), 0);
            }
        }
    }

    private void tubIsEmpty() {
        doc.says(TERMS, "THE TUB is empty,");
        doc.due("count(2)", toldAnew().count(2), 0);
        doc.due("count(7)", toldAnew().count(7), 0);
    }

    private void holeAsTold() {
        doc.says(TERMS, "HOLE as told, nobody");
        doc.due("count(4)", toldAnew().count(4), 5);
    }

    private void nobodyHasMoss() {
        doc.says(TERMS, "nobody has MOSS,");
        doc.due("sister(1, 9)", toldAnew().sister(1, 9), 0);
        doc.due("moss(1)", toldAnew().moss(1), 30);
    }

    private void neverFull() {
        doc.says(TERMS, "it was never FULL,");
        doc.due("count(5)", toldAnew().count(5), 0);
    }

    private void nothingSeen() {
        doc.says(TERMS, "nothing is SEEN,");
        doc.due("count(8)", toldAnew().count(8), 0);
        doc.due("worked(0)", toldAnew().worked(0), 4);
    }

    private void nothingKept() {
        doc.says(TERMS, "nothing is kept or can be undone.");
        doc.due("back(0)", toldAnew().back(0), SieveTub.NOT);
        doc.due("back(1)", toldAnew().back(1), SieveTub.NOT);
        doc.due("undo()", toldAnew().undo(), SieveTub.NOT);
        doc.due("count(9)", toldAnew().count(9), 0);
    }
}
