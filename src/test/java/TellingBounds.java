import java.util.function.Supplier;

/** Promises 1 to 16, what is told and minutes: a test for each sentence, with each refusal. */
final class TellingBounds {
    private static final int UNKNOWN = SieveTub.UNKNOWN;
    private static final int OUTSIDE = SieveTub.OUTSIDE;
    private static final int NOT = SieveTub.NOT;

    private final Sentences doc;

    TellingBounds(Sentences doc) {
        this.doc = doc;
    }

    void all() {
        newObject();
        texts();
        looks();
        deeds();
        undos();
        keeps();
    }

    private void texts() {
        writeTakes();
        writeRefuses();
        erase();
        fault();
        well();
        wellRefuses();
    }

    private void looks() {
        sisterTells();
        sisterRefuses();
        asTells();
        asRefuses();
        sieveAsTells();
        sieveAsRefuses();
    }

    private void deeds() {
        begins();
        beginRefuses();
        rests();
        restRefuses();
        mossIsGiven();
        mossRefuses();
        smears();
        smearRefuses();
        goes();
        goRefuses();
    }

    private void undos() {
        latestIsUndone();
        lastEight();
        goesRound();
        howManyYet();
        undoRefuses();
    }

    private void keeps() {
        keepsAll();
        keepTakes();
        keepRefuses();
        comesBack();
        backRefusesUnknown();
        backRefusesNot();
    }

    private void newObject() {
        doc.says(1, "Nobody, an empty tub.");
        int[] want = {0, 0, 0, 50, 2, 0, 0, 0, 0, 0, 0};
        for (int what = 0; what < want.length; what++) {
            doc.due("count(" + what + ")", new SieveTub().count(what), want[what]);
        }
        doc.due("fault()", new SieveTub().fault(), 0);
        doc.due("erase()", new SieveTub().erase(), 0);
        doc.due("forget()", new SieveTub().forget(), 0);
        doc.due("level(99)", new SieveTub().level(99), 0);
        doc.due("worked(0)", new SieveTub().worked(0), 1);
    }

    private void writeTakes() {
        doc.says(2, "A letter (its number, 0 .. 255) more of THE TEXT: how many it has.");
        SieveTub tub = new SieveTub();
        doc.due("write(0)", tub.write(0), 1);
        doc.due("write(255)", tub.write(255), 2);
        for (int n = 3; n <= 160; n++) {
            doc.due("the letter " + n, tub.write(n), n);
        }
        doc.due("count(10)", tub.count(10), 160);
        for (int letter = 0; letter <= 255; letter++) {
            doc.due("write(" + letter + ")", new SieveTub().write(letter), 1);
        }
    }

    private void writeRefuses() {
        doc.says(2, "OUTSIDE; FULL.");
        doc.refusedAround("write()", Made::busy, 0, 255, SieveTub::write, OUTSIDE);
        Supplier<SieveTub> full = () -> Sentences.written("tub 7;" + " ".repeat(150) + "thaw");
        doc.refusedAround("write() of 160", full, 0, 255, SieveTub::write, OUTSIDE);
        doc.refused("write(0) of 160", full, t -> t.write(0), SieveTub.FULL);
        doc.refused("write(255) of 160", full, t -> t.write(255), SieveTub.FULL);
        SieveTub tub = full.get();
        tub.erase();
        doc.due("write() behind erase()", tub.write('t'), 1);
    }

    private void erase() {
        doc.says(3, "THE TEXT is empty: how many letters it had.");
        SieveTub tub = new SieveTub();
        doc.due("of none", tub.erase(), 0);
        tub.write('t');
        doc.due("of one", tub.erase(), 1);
        doc.due("of none anew", tub.erase(), 0);
        Check.write(tub, "x".repeat(161));
        doc.due("of 160", tub.erase(), 160);
        doc.due("count(10)", tub.count(10), 0);
        Check.write(tub, "thaw");
        doc.due("nothing of the old is read", tub.fault(), SieveTub.NONE);
        SieveTub busy = Made.busy();
        String ahead = Probe.scene(busy);
        busy.erase();
        doc.same("all but THE TEXT", Probe.scene(busy), ahead);
        doc.due("what can be undone", busy.count(9), 5);
        doc.due("SEEN", busy.count(8), 2);
    }

    private void fault() {
        doc.says(4, "The place of the FAULT (the letter with which the TOKEN begins, or the length); NONE.");
        doc.due("of an empty TEXT", new SieveTub().fault(), 0);
        doc.due("the first letter", Sentences.written("x").fault(), 0);
        doc.due("where the TOKEN begins", Sentences.written("tub  100").fault(), 5);
        doc.due("the length", Sentences.written("tub").fault(), 3);
        doc.due("the length with blanks", Sentences.written("tub  ").fault(), 5);
        doc.due("the 160th letter", Sentences.written("thaw" + " ".repeat(155) + "x").fault(), 159);
        doc.due("the length 160", Sentences.written("thaw;" + " ".repeat(155)).fault(), 160);
        doc.due("none", Sentences.written("thaw").fault(), SieveTub.NONE);
        doc.changesNothing("fault()", Made::busy, SieveTub::fault);
        doc.changesNothing("fault() of a FAULT", () -> Sentences.written("plain 1 1;tub 0"), SieveTub::fault);
    }

    private void well() {
        doc.says(5, "THE TEXT's CLAUSES are done, and it is empty then: how many there were.");
        SieveTub tub = new SieveTub();
        Check.write(tub, "tub 9");
        doc.due("of one", tub.well(), 1);
        doc.due("HEIGHT", tub.count(3), 9);
        doc.due("THE TEXT is empty", tub.count(10), 0);
        doc.due("anew, it is empty", tub.well(), NOT);
        Check.write(tub, "hole 9" + ";hole 8".repeat(12) + ";hole 7");
        doc.due("of 14", tub.well(), 14);
        doc.due("HOLE", tub.count(4), 7);
    }

    private void wellRefuses() {
        doc.says(5, "NOT: it has a FAULT.");
        doc.refused("of an empty TEXT", SieveTub::new, SieveTub::well, NOT);
        doc.refused("behind good CLAUSES", () -> Sentences.written("plain 1 1;torn 9;tub 7;hole"),
                SieveTub::well, NOT);
        doc.refused("behind all that is kept", () -> {
            SieveTub tub = Made.busy();
            tub.write('!');
            return tub;
        }, SieveTub::well, NOT);
        SieveTub ends = Sentences.written("tub 7;hole");
        doc.due("it ends too soon", ends.well(), NOT);
        Check.write(ends, " 3");
        doc.due("written on", ends.well(), 2);
    }

    private void sisterTells() {
        doc.says(6, "Of a SISTER: KIND (what 0), PACE (1), LOAD (2), KIND of her SIEVE (3), LEAK (4), "
                + "how she is (5; 0 .. 2), minutes of her way to go (6; 0: RESTS), drops with her (7), "
                + "ROUNDS (8), MINUTES of MOSS to come (9).");
        SieveTub tub = Check.tell("torn 1;lazy 2 9");
        sister("she RESTS", tub, 2, 2, 9, 3, 1, 0, 0, 0, 0, 0);
        tub.begin(0);
        tub.moss(0);
        sister("she DRAWS", tub, 2, 2, 9, 3, 1, 1, 2, 9, 0, 30);
        tub.go(1);
        sister("she walks TO", tub, 2, 2, 9, 3, 1, 1, 1, 8, 0, 29);
        tub.go(1);
        sister("she walks BACK", tub, 2, 2, 9, 3, 1, 2, 4, 0, 0, 28);
        tub.go(4);
        sister("a ROUND", tub, 2, 2, 9, 3, 1, 1, 2, 9, 1, 24);
        tub.rest(0);
        sister("she RESTS anew", tub, 2, 2, 9, 3, 1, 0, 0, 0, 1, 24);
    }

    private void sister(String where, SieveTub tub, int... want) {
        for (int what = 0; what <= 9; what++) {
            doc.due(where + ", sister(0, " + what + ")", tub.sister(0, what), want[what]);
        }
    }

    private void sisterRefuses() {
        doc.says(6, "UNKNOWN; OUTSIDE.");
        doc.refusedAround("sister(, 0)", Made::busy, 0, 1, (t, s) -> t.sister(s, 0), UNKNOWN);
        doc.refusedAround("sister(, 10)", Made::busy, 0, 1, (t, s) -> t.sister(s, 10), UNKNOWN);
        doc.refusedAround("sister(1, )", Made::busy, 0, 9, (t, what) -> t.sister(1, what), OUTSIDE);
    }

    private void asTells() {
        doc.says(7, "A SISTER taken as a KIND (0 .. 3, as they are over one another; she answers as what "
                + "she is, whatever she is taken as): WALK, did she DRAW now.");
        SieveTub tub = Made.begun("open 0;runner 1 9;lazy 6 9;plain 6 9;runner 6 9", 1);
        doc.due("a RUNNER as a SISTER", tub.as(3, 0), 5);
        doc.due("a RUNNER as PLAIN", tub.as(3, 1), 5);
        doc.due("a RUNNER as a RUNNER", tub.as(3, 2), 5);
        doc.due("a LAZY one as LAZY", tub.as(1, 3), 6);
        doc.due("a LAZY one as PLAIN", tub.as(1, 1), 6);
        doc.due("a PLAIN one as a SISTER", tub.as(2, 0), 6);
        tub.go(5);
        doc.due("on her way BACK, behind 2 ROUNDS", tub.as(0, 1), 1);
        tub.go(1);
        doc.due("behind 3 ROUNDS", tub.as(0, 1), 2);
        tub.rest(0);
        doc.due("RESTED behind 3 ROUNDS", tub.as(0, 0), 2);
        doc.changesNothing("as(1, 3)", Made::busy, t -> t.as(1, 3));
    }

    private void asRefuses() {
        doc.says(7, "UNKNOWN; OUTSIDE; NOT: she is none such.");
        doc.refusedAround("as(, 0)", Made::busy, 0, 1, (t, s) -> t.as(s, 0), UNKNOWN);
        doc.refusedAround("as(, 4)", Made::busy, 0, 1, (t, s) -> t.as(s, 4), UNKNOWN);
        doc.refusedAround("as(0, )", Made::busy, 0, 3, (t, kind) -> t.as(0, kind), OUTSIDE);
        doc.refused("a PLAIN one as a RUNNER", Made::busy, t -> t.as(0, 2), NOT);
        doc.refused("a PLAIN one as LAZY", Made::busy, t -> t.as(0, 3), NOT);
        doc.refused("a LAZY one as a RUNNER", Made::busy, t -> t.as(1, 2), NOT);
        doc.refused("a RUNNER as LAZY", () -> Check.tell("runner 1 1"), t -> t.as(0, 3), NOT);
    }

    private void sieveAsTells() {
        doc.says(8, "Her SIEVE taken as a KIND (0 .. 4): DRIP without MOSS, FROST.");
        SieveTub tub = Check.tell("torn 9;plain 6 40;doubled 9;plain 6 40;frost 0 99");
        tub.moss(0);
        tub.moss(1);
        doc.due("a TORN one as a SIEVE", tub.sieveAs(0, 0), 11);
        doc.due("a TORN one as TORN", tub.sieveAs(0, 4), 11);
        for (int kind = 0; kind <= 3; kind++) {
            doc.due("a DOUBLED one as " + kind, tub.sieveAs(1, kind), 3);
        }
        doc.changesNothing("sieveAs(1, 4)", Made::busy, t -> t.sieveAs(1, 4));
    }

    private void sieveAsRefuses() {
        doc.says(8, "UNKNOWN; OUTSIDE; NOT: it is none such.");
        doc.refusedAround("sieveAs(, 0)", Made::busy, 0, 1, (t, s) -> t.sieveAs(s, 0), UNKNOWN);
        doc.refusedAround("sieveAs(, 5)", Made::busy, 0, 1, (t, s) -> t.sieveAs(s, 5), UNKNOWN);
        doc.refusedAround("sieveAs(1, )", Made::busy, 0, 4, (t, kind) -> t.sieveAs(1, kind), OUTSIDE);
        doc.refused("a LINED one as DOUBLED", Made::busy, t -> t.sieveAs(0, 3), NOT);
        doc.refused("a LINED one as TORN", Made::busy, t -> t.sieveAs(0, 4), NOT);
        for (int kind = 1; kind <= 3; kind++) {
            int asked = kind;
            doc.refused("a TORN one as " + kind, Made::busy, t -> t.sieveAs(1, asked), NOT);
        }
        for (int kind = 2; kind <= 4; kind++) {
            int asked = kind;
            doc.refused("an OPEN one as " + kind, () -> Check.tell("plain 1 1"),
                    t -> t.sieveAs(0, asked), NOT);
        }
        doc.refused("a DOUBLED one as TORN", () -> Check.tell("doubled 1;plain 1 1"),
                t -> t.sieveAs(0, 4), NOT);
    }

    private void begins() {
        doc.says(9, "One who RESTS begins (she DRAWS): minutes of her way.");
        SieveTub tub = Check.tell("plain 1 1;plain 6 40;runner 1 7;lazy 6 8;runner 6 9");
        int[] ways = {1, 6, 1, 6, 5};
        for (int s = 0; s < 5; s++) {
            doc.due("begin(" + s + ")", tub.begin(s), ways[s]);
            doc.due("those who do not REST", tub.count(6), (2 << s) - 1);
            doc.due("she walks TO", tub.sister(s, 5), 1);
            doc.due("with her LOAD", tub.sister(s, 7), tub.sister(s, 2));
        }
        SieveTub again = Made.begun("runner 1 9", 1);
        again.go(6);
        again.rest(0);
        doc.due("begun anew, by her ROUNDS", again.begin(0), 2);
    }

    private void beginRefuses() {
        doc.says(9, "UNKNOWN; NOT: she does not REST.");
        doc.refusedAround("begin()", Made::busy, 0, 1, SieveTub::begin, UNKNOWN);
        doc.refused("nobody", SieveTub::new, t -> t.begin(0), UNKNOWN);
        doc.refused("she walks TO", Made::busy, t -> t.begin(1), NOT);
        doc.refused("she walks BACK", Made::busy, t -> t.begin(0), NOT);
        doc.due("she does walk BACK", Made.busy().sister(0, 5), 2);
        doc.refused("of five", () -> Check.tell("lazy 1 1;lazy 1 1;lazy 1 1;lazy 1 1;lazy 1 1"),
                t -> t.begin(5), UNKNOWN);
    }

    private void rests() {
        doc.says(10, "One RESTS from now on: drops that are lost by it.");
        SieveTub tub = Made.begun("open 9;plain 6 40", 1);
        tub.keep(0);
        doc.due("all of her LOAD", tub.rest(0), 40);
        doc.due("her way", tub.sister(0, 6), 0);
        doc.due("her drops", tub.sister(0, 7), 0);
        doc.due("those who do not REST", tub.count(6), 0);
        tub.back(0);
        tub.go(4);
        doc.due("what is left", tub.rest(0), 4);
        tub.back(0);
        tub.go(5);
        doc.due("nothing is left", tub.rest(0), 0);
        tub.back(0);
        tub.go(6);
        doc.due("on her way BACK", tub.rest(0), 0);
        doc.due("LEVEL of nothing that was lost", tub.go(99), 0);
        doc.due("poured", tub.count(7), 0);
    }

    private void restRefuses() {
        doc.says(10, "UNKNOWN; NOT: she RESTS.");
        doc.refusedAround("rest()", Made::busy, 0, 1, SieveTub::rest, UNKNOWN);
        doc.refused("nobody", SieveTub::new, t -> t.rest(0), UNKNOWN);
        doc.refused("she never began", () -> Check.tell("plain 1 1"), t -> t.rest(0), NOT);
        doc.refused("she RESTS already", () -> {
            SieveTub tub = Made.busy();
            tub.rest(0);
            return tub;
        }, t -> t.rest(0), NOT);
    }

    private void mossIsGiven() {
        doc.says(11, "MOSS is given to one: MINUTES that it holds (30).");
        SieveTub tub = Check.tell("plain 1 1;plain 1 1");
        doc.due("moss(1)", tub.moss(1), 30);
        doc.due("sister(1, 9)", tub.sister(1, 9), 30);
        doc.due("sister(0, 9)", tub.sister(0, 9), 0);
        tub.go(30);
        doc.due("sister(1, 9) behind 30", tub.sister(1, 9), 0);
        doc.due("moss(1) anew", tub.moss(1), 30);
        doc.due("moss(0)", tub.moss(0), 30);
    }

    private void mossRefuses() {
        doc.says(11, "UNKNOWN; NOT: she has some.");
        doc.refusedAround("moss()", Made::busy, 0, 1, SieveTub::moss, UNKNOWN);
        doc.refused("nobody", SieveTub::new, t -> t.moss(0), UNKNOWN);
        doc.refused("she has some", Made::busy, t -> t.moss(1), NOT);
        doc.refused("for 30 to come", () -> mossy(0), t -> t.moss(0), NOT);
        doc.refused("for 1 to come", () -> mossy(29), t -> t.moss(0), NOT);
        doc.due("for none to come", mossy(30).moss(0), 30);
    }

    private static SieveTub mossy(int minutes) {
        SieveTub tub = Check.tell("plain 1 1");
        tub.moss(0);
        return Made.inMinute(tub, minutes);
    }

    private void smears() {
        doc.says(12, "HOLE is less by p (1 .. 9; 0 at least): HOLE then.");
        doc.due("smear(1) of 9", Check.tell("hole 9").smear(1), 8);
        doc.due("smear(9) of 9", Check.tell("hole 9").smear(9), 0);
        doc.due("smear(8) of 9", Check.tell("hole 9").smear(8), 1);
        doc.due("smear(1) of 1", Check.tell("hole 1").smear(1), 0);
        doc.due("smear(2) of 1", Check.tell("hole 1").smear(2), 0);
        doc.due("smear(9) of 1", Check.tell("hole 1").smear(9), 0);
        SieveTub tub = Check.tell("hole 7");
        tub.smear(3);
        doc.due("count(4)", tub.count(4), 4);
        doc.due("smear(3) anew", tub.smear(3), 1);
        doc.due("smear(3) anew", tub.smear(3), 0);
        doc.due("count(4)", tub.count(4), 0);
    }

    private void smearRefuses() {
        doc.says(12, "OUTSIDE; NOT: it is 0.");
        doc.refusedAround("smear()", Made::busy, 1, 9, SieveTub::smear, OUTSIDE);
        doc.refusedAround("smear() of 0", () -> Check.tell("hole 0"), 1, 9, SieveTub::smear, OUTSIDE);
        doc.refused("smear(1) of 0", () -> Check.tell("hole 0"), t -> t.smear(1), NOT);
        doc.refused("smear(9) of 0", () -> Check.tell("hole 0"), t -> t.smear(9), NOT);
        doc.refused("smear(1) of 0 by smear()", () -> {
            SieveTub tub = Made.busy();
            tub.smear(4);
            return tub;
        }, t -> t.smear(1), NOT);
    }

    private void goes() {
        doc.says(13, "n MINUTES (1 .. 99): LEVEL.");
        String text = "open 0;plain 1 1;hole 0;tub 99";
        doc.due("go(1)", Made.begun(text, 1).go(1), 1);
        doc.due("go(98)", Made.begun(text, 1).go(98), 49);
        doc.due("go(99)", Made.begun(text, 1).go(99), 50);
        SieveTub tub = Made.begun(text, 1);
        tub.go(99);
        doc.due("count(1)", tub.count(1), 99);
        doc.due("count(2)", tub.count(2), 50);
    }

    private void goRefuses() {
        doc.says(13, "OUTSIDE; FULL: it would be above MINUTE 999.");
        doc.refusedAround("go()", Made::busy, 1, 99, SieveTub::go, OUTSIDE);
        Supplier<SieveTub> last = () -> Made.inMinute(Made.begun("plain 1 9", 1), 999);
        doc.refusedAround("go() in 999", last, 1, 99, SieveTub::go, OUTSIDE);
        doc.refused("go(1) in 999", last, t -> t.go(1), SieveTub.FULL);
        doc.refused("go(99) in 999", last, t -> t.go(99), SieveTub.FULL);
        doc.refused("go(2) in 998", () -> Made.inMinute(new SieveTub(), 998), t -> t.go(2), SieveTub.FULL);
        doc.due("go(1) in 998", Made.inMinute(new SieveTub(), 998).go(1), 0);
        doc.refused("go(99) in 901", () -> Made.inMinute(new SieveTub(), 901), t -> t.go(99), SieveTub.FULL);
        SieveTub tub = Made.inMinute(new SieveTub(), 900);
        doc.due("go(99) in 900", tub.go(99), 0);
        doc.due("count(1)", tub.count(1), 999);
        tub.undo();
        doc.due("go(99) in 900 anew", tub.go(99), 0);
    }

    private void latestIsUndone() {
        doc.says(14, "The latest begin(), rest(), moss(), smear(), go() is undone");
        SieveTub tub = Check.tell("open 1;plain 2 20;tub 15;hole 3");
        String[] scenes = new String[5];
        scenes[0] = Probe.scene(tub);
        tub.begin(0);
        scenes[1] = Probe.scene(tub);
        tub.moss(0);
        scenes[2] = Probe.scene(tub);
        tub.smear(2);
        scenes[3] = Probe.scene(tub);
        tub.go(99);
        scenes[4] = Probe.scene(tub);
        tub.rest(0);
        for (int left = 4; left >= 0; left--) {
            doc.due("undo()", tub.undo(), left);
            doc.same("as it was", Probe.scene(tub), scenes[left]);
        }
        SieveTub others = Check.tell("plain 1 9;plain 1 9");
        others.begin(0);
        others.keep(0);
        others.write('x');
        others.seen(1, 1);
        others.begin(0);
        others.go(0);
        others.level(9);
        doc.due("no other call can be undone", others.undo(), 0);
        doc.due("begin() is undone", others.count(6), 0);
        doc.due("SEEN stays", others.count(8), 1);
        doc.due("THE TEXT stays", others.count(10), 1);
        doc.due("what was kept stays", others.back(0), 0);
        doc.due("as it was kept", others.count(6), 1);
    }

    private void lastEight() {
        doc.says(14, "(the last 8 can be)");
        for (int many = 1; many <= 20; many++) {
            SieveTub tub = new SieveTub();
            for (int i = 0; i < many; i++) {
                tub.go(1);
            }
            int can = Math.min(8, many);
            doc.due("count(9) behind " + many, tub.count(9), can);
            for (int left = can - 1; left >= 0; left--) {
                doc.due("undo() behind " + many, tub.undo(), left);
                doc.due("the MINUTE", tub.count(1), many - can + left);
            }
            doc.due("one more behind " + many, tub.undo(), NOT);
            doc.due("the MINUTE stays", tub.count(1), many - can);
        }
    }

    /** The deeds of which the last 8 can be undone are done and undone by turns, beyond the eighth. */
    private void goesRound() {
        doc.says(14, "(the last 8 can be)");
        SieveTub tub = new SieveTub();
        java.util.ArrayDeque<Integer> minutes = new java.util.ArrayDeque<>();
        int minute = 0;
        int[] turns = {9, -3, 5, -8, 1, -1, 12, -2, 1, 1, -7, 3, -9, 8, -8};
        for (int turn : turns) {
            for (int i = 0; i < turn; i++) {
                minutes.addLast(minute);
                if (minutes.size() > 8) {
                    minutes.removeFirst();
                }
                minute += i + 1;
                tub.go(i + 1);
                doc.due("count(9)", tub.count(9), minutes.size());
            }
            for (int i = 0; i > turn; i--) {
                boolean can = !minutes.isEmpty();
                minute = can ? minutes.removeLast() : minute;
                doc.due("undo()", tub.undo(), can ? minutes.size() : NOT);
                doc.due("the MINUTE", tub.count(1), minute);
            }
        }
    }

    private void howManyYet() {
        doc.says(14, ": how many can be undone yet.");
        SieveTub tub = new SieveTub();
        tub.go(1);
        tub.smear(1);
        doc.due("one more", tub.undo(), 1);
        doc.due("none more", tub.undo(), 0);
        doc.due("count(9)", tub.count(9), 0);
    }

    private void undoRefuses() {
        doc.says(14, "NOT: none.");
        doc.refused("at first", SieveTub::new, SieveTub::undo, NOT);
        doc.refused("behind a text", () -> {
            SieveTub tub = Made.busy();
            tub.well();
            return tub;
        }, SieveTub::undo, NOT);
        doc.refused("behind back()", () -> {
            SieveTub tub = Made.busy();
            tub.back(0);
            return tub;
        }, SieveTub::undo, NOT);
        doc.refused("the ninth", () -> {
            SieveTub tub = Made.begun("open 0;plain 1 9;hole 5", 1);
            for (int i = 0; i < 8; i++) {
                tub.go(i + 1);
            }
            for (int i = 0; i < 8; i++) {
                tub.undo();
            }
            return tub;
        }, SieveTub::undo, NOT);
    }

    private void keepsAll() {
        doc.says(15, "All as it is (but THE TEXT, SEEN, what can be undone) is kept");
        SieveTub tub = Made.busy();
        String scene = Probe.scene(tub);
        tub.keep(0);
        doc.due("what can be undone", tub.count(9), 5);
        tub.rest(0);
        tub.smear(1);
        tub.go(99);
        tub.moss(1);
        tub.seen(5, 5);
        tub.erase();
        doc.due("back(0)", tub.back(0), 4);
        doc.same("all as it was", Probe.scene(tub), scene);
        doc.due("SEEN is as now", tub.count(8), 3);
        doc.due("THE TEXT is as now", tub.count(10), 0);
        doc.due("nothing can be undone", tub.count(9), 0);
    }

    private void keepTakes() {
        doc.says(15, "(k 0, 1): the MINUTE.");
        SieveTub tub = new SieveTub();
        doc.due("keep(0)", tub.keep(0), 0);
        tub.go(7);
        doc.due("keep(1)", tub.keep(1), 7);
        doc.due("back(0)", tub.back(0), 0);
        doc.due("back(1)", tub.back(1), 7);
        tub.go(2);
        doc.due("keep(0) anew", tub.keep(0), 9);
        doc.due("back(1)", tub.back(1), 7);
        doc.due("back(0)", tub.back(0), 9);
        Made.inMinute(tub, 999);
        doc.due("keep(1) in 999", tub.keep(1), 999);
    }

    private void keepRefuses() {
        doc.says(15, "UNKNOWN: no such k.");
        doc.refusedAround("keep()", Made::busy, 0, 1, SieveTub::keep, UNKNOWN);
        doc.refusedAround("keep() at first", SieveTub::new, 0, 1, SieveTub::keep, UNKNOWN);
    }

    private void comesBack() {
        doc.says(16, "It is as it was kept, nothing can be undone: the MINUTE.");
        SieveTub tub = Made.busy();
        doc.due("back(1)", tub.back(1), 4);
        doc.due("count(9)", tub.count(9), 0);
        doc.due("undo()", tub.undo(), NOT);
        doc.due("those who did not REST", tub.count(6), 1);
        tub.go(3);
        doc.due("back(0)", tub.back(0), 0);
        doc.due("HOLE ahead of smear()", tub.count(4), 5);
        doc.due("back(0) anew", tub.back(0), 0);
        doc.due("back(1) anew", tub.back(1), 4);
        doc.due("HOLE behind smear()", tub.count(4), 4);
        tub.go(3);
        doc.due("what comes behind it can be undone", tub.undo(), 0);
        doc.due("count(1)", tub.count(1), 4);
    }

    private void backRefusesUnknown() {
        doc.says(16, "UNKNOWN;");
        doc.refusedAround("back()", Made::busy, 0, 1, SieveTub::back, UNKNOWN);
        doc.refusedAround("back(), nothing kept", SieveTub::new, 0, 1, SieveTub::back, UNKNOWN);
    }

    private void backRefusesNot() {
        doc.says(16, "NOT: nothing was kept since the last text.");
        Supplier<SieveTub> toldAnew = () -> {
            SieveTub tub = Made.busy();
            tub.well();
            return tub;
        };
        doc.refused("back(0) at first", SieveTub::new, t -> t.back(0), NOT);
        doc.refused("back(1) at first", SieveTub::new, t -> t.back(1), NOT);
        doc.refused("back(0) behind a text", toldAnew, t -> t.back(0), NOT);
        doc.refused("back(1) behind a text", toldAnew, t -> t.back(1), NOT);
        doc.refused("the other was kept", () -> {
            SieveTub tub = toldAnew.get();
            tub.go(3);
            tub.keep(0);
            tub.go(3);
            return tub;
        }, t -> t.back(1), NOT);
        SieveTub fault = Made.busy();
        fault.write('!');
        doc.due("a text with a FAULT", fault.well(), NOT);
        doc.due("back(1) behind it", fault.back(1), 4);
    }
}
