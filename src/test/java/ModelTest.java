import java.util.Random;

/** Runs of calls drawn by a fixed seed, each call also put to the Model. */
final class ModelTest {
    private static final int RUNS = 1500;
    private static final int CALLS = 512;
    private static final String[] WORDS = {"plain", "runner", "lazy", "open", "lined", "doubled",
        "torn", "tub", "hole", "frost", "thaw", "well"};

    private final Check check;
    private final Random random;
    private final SieveTub tub = new SieveTub();
    private final Model model = new Model();
    private int calls;
    private final int run;

    private ModelTest(Check check, int run) {
        this.check = check;
        this.run = run;
        random = new Random(run);
    }

    public static void main(String[] args) {
        Check check = new Check("ModelTest");
        int runs = args.length > 0 ? Integer.parseInt(args[0]) : RUNS;
        for (int run = 0; run < runs; run++) {
            new ModelTest(check, run).play();
        }
        allLeaves(check);
        check.end();
    }

    private static void allLeaves(Check check) {
        SieveTub tub = new SieveTub();
        Model model = new Model();
        for (int n = 0; n <= 4; n++) {
            for (int k = 0; k <= 6; k++) {
                for (int q = 0; q <= 10; q++) {
                    check.due("leaves of " + n + " " + k + " " + q,
                            tub.leaves(n, k, q, 0) * 1000003L + tub.leaves(n, k, q, 1),
                            model.leaves(n, k, q, 0) * 1000003L + model.leaves(n, k, q, 1));
                }
            }
        }
    }

    private void due(String call, int got, int want) {
        calls++;
        check.due("run " + run + ", call " + calls + ": " + call, got, want);
    }

    private void play() {
        tell(goodText());
        while (calls < CALLS - 60) {
            int dice = random.nextInt(100);
            if (dice < 2) {
                tell(random.nextBoolean() ? goodText() : badText());
            } else if (dice < 55) {
                act();
            } else if (dice < 85) {
                ask();
            } else {
                look();
            }
        }
        for (int what = 0; what <= 10; what++) {
            due("count(" + what + ")", tub.count(what), model.count(what));
        }
    }

    private void tell(String text) {
        if (calls + text.length() > CALLS - 60) {
            return;
        }
        for (int i = 0; i < text.length(); i++) {
            int letter = text.charAt(i);
            due("write(" + letter + ")", tub.write(letter), model.write(letter));
        }
        due("fault() of '" + text + "'", tub.fault(), model.fault());
        due("well() of '" + text + "'", tub.well(), model.well());
        if (random.nextInt(3) > 0) {
            due("erase()", tub.erase(), model.erase());
        }
    }

    private int number(int least, int most) {
        return least + random.nextInt(most - least + 1);
    }

    private String clause() {
        String word = WORDS[random.nextInt(random.nextInt(4) == 0 ? 12 : 10)];
        switch (word) {
            case "plain": case "runner": case "lazy":
                return word + " " + number(1, 6) + " " + number(1, 40);
            case "tub": return word + number(1, 99);
            case "frost":
                int from = number(0, 30);
                return word + " " + from + " " + number(from, Math.min(99, from + 20));
            case "thaw": case "well": return word;
            default: return word + " " + number(0, 9);
        }
    }

    private String goodText() {
        StringBuilder text = new StringBuilder(random.nextInt(3) == 0 ? "well;" : "");
        int clauses = number(3, 11);
        for (int c = 0; c < clauses; c++) {
            text.append(c == 0 ? "" : ";").append(clause());
        }
        return text.toString();
    }

    private String badText() {
        StringBuilder text = new StringBuilder(goodText());
        int faults = number(1, 3);
        for (int f = 0; f < faults; f++) {
            int at = random.nextInt(text.length());
            switch (random.nextInt(3)) {
                case 0: text.deleteCharAt(at); break;
                case 1: text.insert(at, " ;07tw".charAt(random.nextInt(6))); break;
                default: text.setCharAt(at, (char) random.nextInt(256)); break;
            }
            text.append(' ');
        }
        return text.toString();
    }

    private int someSister() {
        return random.nextInt(12) == 0 ? number(-2, 6) : random.nextInt(Math.max(1, model.count(0)));
    }

    private int minutes(int most) {
        return random.nextInt(20) == 0 ? number(-1, most + 2) : number(1, random.nextBoolean() ? 12 : most);
    }

    private void act() {
        int s = someSister();
        int k = number(-1, 2);
        int n = minutes(99);
        int p = number(0, 10);
        switch (random.nextInt(12)) {
            case 0: case 1: case 2: due("begin(" + s + ")", tub.begin(s), model.begin(s)); break;
            case 3: due("rest(" + s + ")", tub.rest(s), model.rest(s)); break;
            case 4: due("moss(" + s + ")", tub.moss(s), model.moss(s)); break;
            case 5: due("smear(" + p + ")", tub.smear(p), model.smear(p)); break;
            case 6: case 7: case 8: due("go(" + n + ")", tub.go(n), model.go(n)); break;
            case 9: due("undo()", tub.undo(), model.undo()); break;
            case 10: due("keep(" + k + ")", tub.keep(k), model.keep(k)); break;
            default: due("back(" + k + ")", tub.back(k), model.back(k)); break;
        }
    }

    private void ask() {
        int s = someSister();
        int n = minutes(99);
        int p = number(-1, 10);
        int what = number(-1, 3);
        switch (random.nextInt(12)) {
            case 0: due("level(" + n + ")", tub.level(n), model.level(n)); break;
            case 1: due("highest(" + n + ")", tub.highest(n), model.highest(n)); break;
            case 2: due("full()", tub.full(), model.full()); break;
            case 3: due("mossTo(" + n + ")", tub.mossTo(n), model.mossTo(n)); break;
            case 4: due("adds(" + s + ", " + n + ")", tub.adds(s, n), model.adds(s, n)); break;
            case 5: due("fewest(" + n + ")", tub.fewest(n), model.fewest(n)); break;
            case 6: askTogether(); break;
            case 7: due("pitch(" + p + ")", tub.pitch(p), model.pitch(p)); break;
            case 8: askSeen(); break;
            case 9: due("forget()", tub.forget(), model.forget()); break;
            default: due("worked(" + what + ")", tub.worked(what), model.worked(what)); break;
        }
    }

    /** The Model's search is slow with many who rest, so it is asked for few minutes then. */
    private void askTogether() {
        int resting = model.count(0) - Integer.bitCount(model.count(6));
        if (resting > 3 && random.nextInt(4) > 0) {
            return;
        }
        int n = minutes(resting > 3 ? 10 : 40);
        for (int s = -1; s < (random.nextInt(3) == 0 ? model.count(0) : 0); s++) {
            due("together(" + n + ", " + s + ")", tub.together(n, s), model.together(n, s));
        }
        int s = someSister();
        due("together(" + n + ", " + s + ")", tub.together(n, s), model.together(n, s));
    }

    /** Mostly what would be so for some set of sisters, so that some sets fit. */
    private void askSeen() {
        int minute = random.nextInt(15) == 0 ? number(-1, 101) : number(0, 25);
        int level = number(-1, 100);
        if (random.nextInt(5) > 0) {
            SieveTub other = new SieveTub();
            level = levelBySome(other, minute);
        }
        due("seen(" + minute + ", " + level + ")", tub.seen(minute, level), model.seen(minute, level));
    }

    private int levelBySome(SieveTub other, int minute) {
        StringBuilder text = new StringBuilder();
        for (int s = 0; s < model.count(0); s++) {
            String sieve = WORDS[3 + model.sister(s, 3)] + model.sister(s, 4);
            String sister = WORDS[model.sister(s, 0)] + model.sister(s, 1) + " " + model.sister(s, 2);
            text.append(sieve).append(';').append(sister).append(';');
        }
        text.append("hole").append(model.count(4)).append(";tub").append(model.count(3));
        Check.write(other, text.toString());
        other.well();
        for (int s = 0; s < model.count(0); s++) {
            if (random.nextBoolean()) {
                other.begin(s);
            }
        }
        return other.level(minute);
    }

    private void look() {
        int s = someSister();
        int what = number(-1, 10);
        int count = number(-1, 11);
        int kind = number(-1, 5);
        switch (random.nextInt(5)) {
            case 0: case 1: due("sister(" + s + ", " + what + ")", tub.sister(s, what), model.sister(s, what)); break;
            case 2: due("as(" + s + ", " + kind + ")", tub.as(s, kind), model.as(s, kind)); break;
            case 3: due("sieveAs(" + s + ", " + kind + ")", tub.sieveAs(s, kind), model.sieveAs(s, kind)); break;
            default: due("count(" + count + ")", tub.count(count), model.count(count)); break;
        }
    }
}
