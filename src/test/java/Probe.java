/**
 * All that an object can show: what it is now, what is foretold, what undo() and back() bring
 * again, what THE TEXT tells, the SIEVE told last, the FROST. The object is used up by it: with two
 * SISTERS in fewer than 300 of its 512 calls.
 */
final class Probe {
    private final SieveTub tub;
    private final StringBuilder all = new StringBuilder();

    private Probe(SieveTub tub) {
        this.tub = tub;
    }

    static String usedUp(SieveTub tub) {
        Probe probe = new Probe(tub);
        probe.all.append(Check.state(tub));
        probe.foretold();
        probe.undone();
        probe.kept();
        probe.text();
        probe.toldLast();
        return probe.all.toString();
    }

    /** What minutes change, without THE TEXT, SEEN and what can be undone. */
    static String scene(SieveTub tub) {
        Probe probe = new Probe(tub);
        probe.scene();
        return probe.all.toString();
    }

    private void add(String name, int answer) {
        all.append(name).append(answer).append(' ');
    }

    private void foretold() {
        add("level ", tub.level(7));
        add("highest ", tub.highest(30));
        add("full ", tub.full());
        add("mossTo ", tub.mossTo(9));
        add("fewest ", tub.fewest(30));
        add("together ", tub.together(6, SieveTub.NONE));
        add("pitch ", tub.pitch(9));
        for (int what = 0; what <= 2; what++) {
            add("worked ", tub.worked(what));
        }
        add("fault ", tub.fault());
    }

    private void scene() {
        for (int what = 1; what <= 7; what++) {
            add("", tub.count(what));
        }
        for (int s = 0; s < tub.count(0); s++) {
            all.append("| ");
            for (int what = 5; what <= 9; what++) {
                add("", tub.sister(s, what));
            }
        }
    }

    private void undone() {
        int left = tub.count(9);
        for (int i = 0; i <= left && i <= 8; i++) {
            add("undo ", tub.undo());
            scene();
        }
    }

    private void kept() {
        for (int k = 0; k <= 1; k++) {
            add("back ", tub.back(k));
            scene();
        }
    }

    private void text() {
        add("well ", tub.well());
        add("erase ", tub.erase());
        for (int what = 0; what <= 4; what++) {
            add("", tub.count(what));
        }
    }

    private void toldLast() {
        Check.write(tub, "plain 6 40");
        add("fault ", tub.fault());
        add("well ", tub.well());
        int last = tub.count(0) - 1;
        add("sieve ", tub.sister(last, 3));
        add("leak ", tub.sister(last, 4));
        add("begin ", tub.begin(last));
        for (int m = 0; m < 5; m++) {
            tub.go(1);
            add("", tub.sister(last, 7));
        }
    }
}
