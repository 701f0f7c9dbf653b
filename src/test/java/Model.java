import java.util.ArrayList;
import java.util.List;
import java.util.regex.Matcher;
import java.util.regex.Pattern;

/**
 * The document read a second time, as plainly as can be: all that is foretold is played out minute
 * by minute on a copy of everything, and every choice is tried. Slow, and only for tests.
 */
final class Model {
    static final class Girl {
        String kind;
        int pace;
        int load;
        String sieve;
        int leak;
        String how = "rests";
        int toGo;
        int drops;
        int rounds;
        int mossEnds = -1;
        int came;

        Girl copy() {
            Girl g = new Girl();
            g.kind = kind;
            g.pace = pace;
            g.load = load;
            g.sieve = sieve;
            g.leak = leak;
            g.how = how;
            g.toGo = toGo;
            g.drops = drops;
            g.rounds = rounds;
            g.mossEnds = mossEnds;
            g.came = came;
            return g;
        }

        int walk() {
            if (kind.equals("runner")) {
                if (rounds >= 3) {
                    return pace + 1;
                }
                return pace == 1 ? 1 : pace - 1;
            }
            return pace;
        }

        void draw() {
            how = "to";
            came = walk();
            toGo = came;
            drops = load;
        }

        void rest() {
            how = "rests";
            toGo = 0;
            drops = 0;
        }

        int plainDrip() {
            int lined = (int) Math.floor(leak / 2.0);
            if (sieve.equals("lined")) {
                return lined;
            }
            if (sieve.equals("doubled")) {
                return lined == 0 ? 0 : lined - 1;
            }
            return sieve.equals("torn") ? leak + 2 : leak;
        }
    }

    static final class World {
        List<Girl> girls = new ArrayList<>();
        String lastSieve = "open";
        int lastLeak = 3;
        int height = 50;
        int toldHole = 2;
        int hole = 2;
        boolean frost;
        int frostA;
        int frostB;
        int minute;
        int level;
        int full;
        long poured;
        int risen;

        World copy() {
            World w = new World();
            for (Girl g : girls) {
                w.girls.add(g.copy());
            }
            w.lastSieve = lastSieve;
            w.lastLeak = lastLeak;
            w.height = height;
            w.toldHole = toldHole;
            w.hole = hole;
            w.frost = frost;
            w.frostA = frostA;
            w.frostB = frostB;
            w.minute = minute;
            w.level = level;
            w.full = full;
            w.poured = poured;
            return w;
        }

        void minute() {
            boolean cold = frost && frostA <= minute && minute <= frostB;
            int all = 0;
            for (Girl g : girls) {
                if (g.how.equals("to")) {
                    int drip = g.plainDrip();
                    if (minute < g.mossEnds) {
                        drip = drip / 2;
                    }
                    if (cold) {
                        drip = 0;
                    }
                    g.drops = g.drops < drip ? 0 : g.drops - drip;
                    g.toGo--;
                    if (g.toGo == 0) {
                        all += g.drops;
                        g.drops = 0;
                        g.how = "back";
                        g.toGo = g.came + (g.kind.equals("lazy") ? 2 : 0);
                    }
                } else if (g.how.equals("back")) {
                    g.toGo--;
                    if (g.toGo == 0) {
                        g.rounds++;
                        g.draw();
                    }
                }
            }
            poured += all;
            level += all;
            if (level > height) {
                level = height;
            }
            risen = level;
            if (level == height) {
                full++;
            }
            int product = level * hole;
            level -= product / 20 + (product % 20 == 0 ? 0 : 1);
            minute++;
        }

        /** LEVEL behind n, HIGHEST, FULL first (or -1). */
        int[] play(int n) {
            World w = copy();
            int high = w.level;
            int first = -1;
            for (int m = 1; m <= n; m++) {
                w.minute();
                high = Math.max(high, w.risen);
                if (first < 0 && w.risen == w.height) {
                    first = m;
                }
            }
            return new int[] {w.level, high, first};
        }

        void restAllBut(int set) {
            for (int s = 0; s < girls.size(); s++) {
                if ((set >> s & 1) == 0) {
                    girls.get(s).rest();
                }
            }
        }

        int workers() {
            int set = 0;
            for (int s = 0; s < girls.size(); s++) {
                set += girls.get(s).how.equals("rests") ? 0 : 1 << s;
            }
            return set;
        }
    }

    private static final String[] SISTERS = {"plain", "runner", "lazy"};
    private static final String[] SIEVES = {"open", "lined", "doubled", "torn"};

    private World world = new World();
    private final StringBuilder text = new StringBuilder();
    private final List<World> past = new ArrayList<>();
    private final World[] kept = new World[2];
    private final List<int[]> seen = new ArrayList<>();

    private static int index(String[] row, String one) {
        return List.of(row).indexOf(one);
    }

    private boolean unknown(int s) {
        return s < 0 || s >= world.girls.size();
    }

    int write(int letter) {
        if (letter < 0 || letter > 255) {
            return -3;
        }
        if (text.length() == 160) {
            return -5;
        }
        text.append((char) letter);
        return text.length();
    }

    int erase() {
        int n = text.length();
        text.setLength(0);
        return n;
    }

    private static final class Token {
        String letters;
        int at;
    }

    private List<Token> tokens() {
        List<Token> all = new ArrayList<>();
        Matcher m = Pattern.compile("[a-z]+|[0-9]+|[^ ]", Pattern.DOTALL).matcher(text);
        while (m.find()) {
            Token t = new Token();
            t.letters = m.group();
            t.at = m.start();
            all.add(t);
        }
        return all;
    }

    /** Does the clauses on a world, up to a fault: its place, or -1; clauses are counted in done[0]. */
    private int read(World w, int[] done) {
        List<Token> all = tokens();
        int i = 0;
        while (true) {
            if (i == all.size()) {
                return text.length();
            }
            Token word = all.get(i++);
            int[][] bounds = bounds(word.letters);
            if (bounds == null || bounds.length == 2 && bounds[0][0] == 1 && w.girls.size() == 5) {
                return word.at;
            }
            int[] numbers = new int[bounds.length];
            for (int b = 0; b < bounds.length; b++) {
                if (i == all.size()) {
                    return text.length();
                }
                Token t = all.get(i++);
                if (!t.letters.matches("[0-9]{1,2}")) {
                    return t.at;
                }
                numbers[b] = Integer.parseInt(t.letters);
                int low = word.letters.equals("frost") && b == 1 ? numbers[0] : bounds[b][0];
                if (numbers[b] < low || numbers[b] > bounds[b][1]) {
                    return t.at;
                }
            }
            doClause(w, word.letters, numbers);
            done[0]++;
            if (i == all.size()) {
                return -1;
            }
            Token t = all.get(i++);
            if (!t.letters.equals(";") || done[0] == 14) {
                return t.at;
            }
        }
    }

    private static int[][] bounds(String word) {
        switch (word) {
            case "well": case "thaw": return new int[][] {};
            case "plain": case "runner": case "lazy": return new int[][] {{1, 6}, {1, 40}};
            case "open": case "lined": case "doubled": case "torn": case "hole":
                return new int[][] {{0, 9}};
            case "tub": return new int[][] {{1, 99}};
            case "frost": return new int[][] {{0, 99}, {0, 99}};
            default: return null;
        }
    }

    private static void doClause(World w, String word, int[] n) {
        if (index(SISTERS, word) >= 0) {
            Girl g = new Girl();
            g.kind = word;
            g.pace = n[0];
            g.load = n[1];
            g.sieve = w.lastSieve;
            g.leak = w.lastLeak;
            w.girls.add(g);
        } else if (index(SIEVES, word) >= 0) {
            w.lastSieve = word;
            w.lastLeak = n[0];
        } else if (word.equals("tub")) {
            w.height = n[0];
        } else if (word.equals("hole")) {
            w.toldHole = n[0];
        } else if (word.equals("frost")) {
            w.frost = true;
            w.frostA = n[0];
            w.frostB = n[1];
        } else if (word.equals("thaw")) {
            w.frost = false;
        } else {
            World first = new World();
            w.girls.clear();
            w.lastSieve = first.lastSieve;
            w.lastLeak = first.lastLeak;
            w.height = first.height;
            w.toldHole = first.toldHole;
            w.frost = false;
        }
    }

    int fault() {
        return read(world.copy(), new int[1]);
    }

    private static void fresh(World w) {
        w.hole = w.toldHole;
        w.minute = 0;
        w.level = 0;
        w.full = 0;
        w.poured = 0;
        for (Girl g : w.girls) {
            g.rest();
            g.rounds = 0;
            g.mossEnds = -1;
        }
    }

    int well() {
        World w = world.copy();
        int[] done = new int[1];
        if (read(w, done) != -1) {
            return -4;
        }
        fresh(w);
        world = w;
        text.setLength(0);
        past.clear();
        kept[0] = null;
        kept[1] = null;
        seen.clear();
        return done[0];
    }

    int sister(int s, int what) {
        if (unknown(s)) {
            return -2;
        }
        if (what < 0 || what > 9) {
            return -3;
        }
        Girl g = world.girls.get(s);
        int how = index(new String[] {"rests", "to", "back"}, g.how);
        int moss = Math.max(0, g.mossEnds - world.minute);
        return new int[] {index(SISTERS, g.kind), g.pace, g.load, index(SIEVES, g.sieve), g.leak,
            how, g.toGo, g.drops, g.rounds, moss}[what];
    }

    int as(int s, int kind) {
        if (unknown(s)) {
            return -2;
        }
        if (kind < 0 || kind > 3) {
            return -3;
        }
        Girl g = world.girls.get(s);
        boolean such = kind < 2 || g.kind.equals(kind == 2 ? "runner" : "lazy");
        return such ? g.walk() : -4;
    }

    int sieveAs(int s, int kind) {
        if (unknown(s)) {
            return -2;
        }
        if (kind < 0 || kind > 4) {
            return -3;
        }
        Girl g = world.girls.get(s);
        String such = new String[] {"open lined doubled torn", "open lined doubled", "lined doubled",
            "doubled", "torn"}[kind];
        return List.of(such.split(" ")).contains(g.sieve) ? g.plainDrip() : -4;
    }

    private void remember() {
        past.add(world.copy());
        if (past.size() > 8) {
            past.remove(0);
        }
    }

    int begin(int s) {
        if (unknown(s)) {
            return -2;
        }
        if (!world.girls.get(s).how.equals("rests")) {
            return -4;
        }
        remember();
        world.girls.get(s).draw();
        return world.girls.get(s).toGo;
    }

    int rest(int s) {
        if (unknown(s)) {
            return -2;
        }
        if (world.girls.get(s).how.equals("rests")) {
            return -4;
        }
        remember();
        int lost = world.girls.get(s).drops;
        world.girls.get(s).rest();
        return lost;
    }

    int moss(int s) {
        if (unknown(s)) {
            return -2;
        }
        if (world.girls.get(s).mossEnds > world.minute) {
            return -4;
        }
        remember();
        world.girls.get(s).mossEnds = world.minute + 30;
        return 30;
    }

    int smear(int p) {
        if (p < 1 || p > 9) {
            return -3;
        }
        if (world.hole == 0) {
            return -4;
        }
        remember();
        world.hole = p > world.hole ? 0 : world.hole - p;
        return world.hole;
    }

    int go(int n) {
        if (n < 1 || n > 99) {
            return -3;
        }
        if (world.minute + n > 999) {
            return -5;
        }
        remember();
        for (int m = 0; m < n; m++) {
            world.minute();
        }
        return world.level;
    }

    int undo() {
        if (past.isEmpty()) {
            return -4;
        }
        world = past.remove(past.size() - 1);
        return past.size();
    }

    int keep(int k) {
        if (k != 0 && k != 1) {
            return -2;
        }
        kept[k] = world.copy();
        return world.minute;
    }

    int back(int k) {
        if (k != 0 && k != 1) {
            return -2;
        }
        if (kept[k] == null) {
            return -4;
        }
        world = kept[k].copy();
        past.clear();
        return world.minute;
    }

    int level(int n) {
        return n < 0 || n > 99 ? -3 : world.play(n)[0];
    }

    int highest(int n) {
        return n < 0 || n > 99 ? -3 : world.play(n)[1];
    }

    int full() {
        return world.play(99)[2];
    }

    int mossTo(int n) {
        if (n < 1 || n > 99) {
            return -3;
        }
        int without = world.play(n)[0];
        int best = -1;
        int most = -1;
        for (int s = world.girls.size() - 1; s >= 0; s--) {
            if (world.girls.get(s).mossEnds > world.minute) {
                continue;
            }
            World w = world.copy();
            w.girls.get(s).mossEnds = w.minute + 30;
            int level = w.play(n)[0];
            if (level > without && level >= most) {
                most = level;
                best = s;
            }
        }
        return best;
    }

    int adds(int s, int n) {
        if (unknown(s)) {
            return -2;
        }
        if (n < 1 || n > 99) {
            return -3;
        }
        World w = world.copy();
        w.girls.get(s).rest();
        return world.play(n)[1] - w.play(n)[1];
    }

    int fewest(int n) {
        if (n < 1 || n > 99) {
            return -3;
        }
        int workers = world.workers();
        for (int size = 0; size <= 5; size++) {
            for (int set = 0; set < 32; set++) {
                if ((set | workers) == workers && Integer.bitCount(set) == size) {
                    World w = world.copy();
                    w.restAllBut(set);
                    if (w.play(n)[2] != -1) {
                        return set;
                    }
                }
            }
        }
        return -1;
    }

    int together(int n, int s) {
        if (s != -1 && unknown(s)) {
            return -2;
        }
        if (n < 1 || n > 40) {
            return -3;
        }
        int many = world.girls.size();
        int most = -1;
        int[] best = null;
        int[] row = new int[many];
        for (int code = 0; code < 1 << 2 * many; code++) {
            boolean counts = true;
            for (int i = 0; i < many; i++) {
                row[i] = code >> 2 * (many - 1 - i) & 3;
                if (!world.girls.get(i).how.equals("rests")) {
                    counts &= row[i] == 0;
                    row[i] = -1;
                }
            }
            int high = counts ? highestBy(row, n) : -1;
            if (high > most) {
                most = high;
                best = row.clone();
            }
        }
        return s == -1 ? most : best[s];
    }

    private int highestBy(int[] row, int n) {
        World w = world.copy();
        int high = w.level;
        for (int m = 0; m < n; m++) {
            for (int i = 0; i < row.length; i++) {
                if (row[i] == m) {
                    w.girls.get(i).draw();
                }
            }
            w.minute();
            high = Math.max(high, w.risen);
        }
        return high;
    }

    int pitch(int p) {
        if (p < 0 || p > 9) {
            return -3;
        }
        World w = world.copy();
        w.hole = Math.max(0, w.hole - p);
        return w.play(99)[2];
    }

    int seen(int minute, int level) {
        if (minute < 0 || minute > 99 || level < 0 || level > 99) {
            return -3;
        }
        if (seen.size() == 6) {
            return -5;
        }
        seen.add(new int[] {minute, level});
        return seen.size();
    }

    int forget() {
        int n = seen.size();
        seen.clear();
        return n;
    }

    int worked(int what) {
        if (what < 0 || what > 2) {
            return -3;
        }
        List<Integer> sets = new ArrayList<>();
        for (int set = 0; set < 1 << world.girls.size(); set++) {
            World w = world.copy();
            fresh(w);
            for (Girl g : w.girls) {
                g.draw();
            }
            w.restAllBut(set);
            boolean so = true;
            for (int[] mark : seen) {
                so &= w.play(mark[0])[0] == mark[1];
            }
            if (so) {
                sets.add(set);
            }
        }
        if (what == 0) {
            return sets.size();
        }
        if (sets.isEmpty()) {
            return what == 1 ? -1 : 0;
        }
        int all = sets.get(0);
        for (int set : sets) {
            all &= set;
        }
        return what == 1 ? sets.get(0) : all;
    }

    /** Each of the ten to the n-th equally likely courses is looked at. */
    int leaves(int n, int k, int q, int part) {
        if (n < 0 || n > 6 || k < 0 || k > 6 || q < 0 || q > 10 || part < 0 || part > 1) {
            return -3;
        }
        int courses = 1;
        for (int i = 0; i < n; i++) {
            courses *= 10;
        }
        int fit = 0;
        for (int course = 0; course < courses; course++) {
            int stopped = 0;
            int rest = course;
            for (int i = 0; i < n; i++) {
                stopped += rest % 10 < q ? 1 : 0;
                rest /= 10;
            }
            fit += stopped >= k ? 1 : 0;
        }
        int common = java.math.BigInteger.valueOf(fit).gcd(java.math.BigInteger.valueOf(courses)).intValue();
        return (part == 0 ? fit : courses) / common;
    }

    int count(int what) {
        if (what < 0 || what > 10) {
            return -3;
        }
        return new int[] {world.girls.size(), world.minute, world.level, world.height, world.hole,
            world.full, world.workers(), (int) world.poured, seen.size(), past.size(),
            text.length()}[what];
    }
}
