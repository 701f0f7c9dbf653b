/**
 * Sisters who carry water in sieves to a tub with a hole. DOC.md says what each call answers;
 * a call that is refused answers UNKNOWN, OUTSIDE, NOT or FULL and changes nothing.
 */
public final class SieveTub {
    public static final int NONE = -1, UNKNOWN = -2, OUTSIDE = -3, NOT = -4, FULL = -5;

    private static final int MOST_SISTERS = 5;
    private static final int MOST_LETTERS = 160;
    private static final int MOST_CLAUSES = 14;
    private static final int MOST_DIGITS = 2;
    private static final int MOST_UNDONE = 8;
    private static final int MOST_KEPT = 2;
    private static final int MOST_SEEN = 6;
    private static final int MOST_FORETOLD = 99;
    private static final int MOST_TOGETHER = 40;
    private static final int MOST_LEAVES = 6;
    private static final int LAST_MINUTE = 999;
    private static final int DELAYS = 4;

    private static final int PLAIN = 0, RUNNER = 1, LAZY = 2;
    private static final int OPEN = 0, LINED = 1, DOUBLED = 2, TORN = 3;
    private static final int RESTS = 0, WALKS_TO = 1, WALKS_BACK = 2;

    private static final int FRESH_ROUNDS = 3;
    private static final int LAZY_MINUTES = 2;
    private static final int MOSS_MINUTES = 30;
    private static final int HOLE_PARTS = 20;

    /** What a clause does, by its word. */
    private static final int DO_WELL = 0, DO_SISTER = 1, DO_SIEVE = 2, DO_TUB = 3, DO_HOLE = 4,
            DO_FROST = 5, DO_THAW = 6;

    private static final int END_TOKEN = 0, WORD_TOKEN = 1, NUMBER_TOKEN = 2, OTHER_TOKEN = 3;

    /** The kind right above each, as sister() kinds are taken: SISTER, PLAIN, RUNNER, LAZY. */
    private static final int[] ABOVE_SISTER = {-1, 0, 1, 1};
    /** The same of SIEVE, OPEN, LINED, DOUBLED, TORN. */
    private static final int[] ABOVE_SIEVE = {-1, 0, 1, 2, 0};

    private final Told told;
    private final Letters text;
    private final Clauses clauses;
    private final Scene now;
    private final Past past;
    private final Scene[] kept;
    private final boolean[] isKept;
    private final Forecast forecast;
    private final Delays delays;
    private final int[] seenMinutes;
    private final int[] seenLevels;
    private int seenCount;

    public SieveTub() {
        told = new Told();
        text = new Letters();
        clauses = new Clauses();
        now = new Scene();
        past = new Past();
        kept = new Scene[MOST_KEPT];
        for (int k = 0; k < MOST_KEPT; k++) {
            kept[k] = new Scene();
        }
        isKept = new boolean[MOST_KEPT];
        forecast = new Forecast(told);
        delays = new Delays(told);
        seenMinutes = new int[MOST_SEEN];
        seenLevels = new int[MOST_SEEN];
        now.startAnew(told.hole);
    }

    // ---- what is told

    public int write(int letter) {
        if (isOutside(letter, 0, 255)) {
            return OUTSIDE;
        }
        return text.add(letter) ? text.length : FULL;
    }

    public int erase() {
        int had = text.length;
        text.length = 0;
        return had;
    }

    public int fault() {
        return clauses.read(text, told.count);
    }

    public int well() {
        if (clauses.read(text, told.count) != NONE) {
            return NOT;
        }
        for (int c = 0; c < clauses.count; c++) {
            told.hear(clauses.deeds[c], clauses.kinds[c], clauses.firsts[c], clauses.seconds[c]);
        }
        text.length = 0;
        now.startAnew(told.hole);
        past.size = 0;
        for (int k = 0; k < MOST_KEPT; k++) {
            isKept[k] = false;
        }
        seenCount = 0;
        return clauses.count;
    }

    public int sister(int sister, int what) {
        if (isUnknown(sister)) {
            return UNKNOWN;
        }
        switch (what) {
            case 0: return told.sisters[sister].kind;
            case 1: return told.sisters[sister].pace;
            case 2: return told.sisters[sister].load;
            case 3: return told.sisters[sister].sieve;
            case 4: return told.sisters[sister].leak;
            case 5: return now.walkers[sister].how;
            case 6: return now.walkers[sister].way;
            case 7: return now.walkers[sister].drops;
            case 8: return now.walkers[sister].rounds;
            case 9: return now.walkers[sister].moss;
            default: return OUTSIDE;
        }
    }

    public int as(int sister, int kind) {
        if (isUnknown(sister)) {
            return UNKNOWN;
        }
        if (isOutside(kind, 0, ABOVE_SISTER.length - 1)) {
            return OUTSIDE;
        }
        Sister who = told.sisters[sister];
        // a kind told by texts stands one further in the row of those she can be taken as
        if (!isSuch(ABOVE_SISTER, who.kind + 1, kind)) {
            return NOT;
        }
        return who.walk(now.walkers[sister].rounds);
    }

    public int sieveAs(int sister, int kind) {
        if (isUnknown(sister)) {
            return UNKNOWN;
        }
        if (isOutside(kind, 0, ABOVE_SIEVE.length - 1)) {
            return OUTSIDE;
        }
        Sister who = told.sisters[sister];
        if (!isSuch(ABOVE_SIEVE, who.sieve + 1, kind)) {
            return NOT;
        }
        return who.drip();
    }

    // ---- minutes

    public int begin(int sister) {
        if (isUnknown(sister)) {
            return UNKNOWN;
        }
        if (now.walkers[sister].how != RESTS) {
            return NOT;
        }
        past.push(now);
        now.walkers[sister].draw(told.sisters[sister]);
        return now.walkers[sister].way;
    }

    public int rest(int sister) {
        if (isUnknown(sister)) {
            return UNKNOWN;
        }
        if (now.walkers[sister].how == RESTS) {
            return NOT;
        }
        past.push(now);
        int lost = now.walkers[sister].drops;
        now.walkers[sister].sitDown();
        return lost;
    }

    public int moss(int sister) {
        if (isUnknown(sister)) {
            return UNKNOWN;
        }
        if (now.walkers[sister].moss > 0) {
            return NOT;
        }
        past.push(now);
        now.walkers[sister].moss = MOSS_MINUTES;
        return MOSS_MINUTES;
    }

    public int smear(int p) {
        if (isOutside(p, 1, 9)) {
            return OUTSIDE;
        }
        if (now.hole == 0) {
            return NOT;
        }
        past.push(now);
        now.hole = Math.max(0, now.hole - p);
        return now.hole;
    }

    public int go(int n) {
        if (isOutside(n, 1, MOST_FORETOLD)) {
            return OUTSIDE;
        }
        if (now.minute + n > LAST_MINUTE) {
            return FULL;
        }
        past.push(now);
        for (int m = 0; m < n; m++) {
            now.passMinute(told);
        }
        return now.level;
    }

    public int undo() {
        return past.pop(now) ? past.size : NOT;
    }

    public int keep(int k) {
        if (isOutside(k, 0, MOST_KEPT - 1)) {
            return UNKNOWN;
        }
        kept[k].copy(now);
        isKept[k] = true;
        return now.minute;
    }

    public int back(int k) {
        if (isOutside(k, 0, MOST_KEPT - 1)) {
            return UNKNOWN;
        }
        if (!isKept[k]) {
            return NOT;
        }
        now.copy(kept[k]);
        past.size = 0;
        return now.minute;
    }

    // ---- foretold

    public int level(int n) {
        if (isOutside(n, 0, MOST_FORETOLD)) {
            return OUTSIDE;
        }
        forecast.takeAll(now, n);
        forecast.run(now.level, now.hole, n);
        return forecast.levels[n];
    }

    public int highest(int n) {
        if (isOutside(n, 0, MOST_FORETOLD)) {
            return OUTSIDE;
        }
        forecast.takeAll(now, n);
        forecast.run(now.level, now.hole, n);
        return forecast.highest;
    }

    public int full() {
        return firstFull(now.hole);
    }

    public int mossTo(int n) {
        if (isOutside(n, 1, MOST_FORETOLD)) {
            return OUTSIDE;
        }
        forecast.takeAll(now, n);
        forecast.run(now.level, now.hole, n);
        int most = forecast.levels[n];
        int best = NONE;
        for (int s = 0; s < told.count; s++) {
            if (now.walkers[s].moss > 0) {
                continue;
            }
            forecast.takeOne(now, s, MOSS_MINUTES, n);
            forecast.run(now.level, now.hole, n);
            if (forecast.levels[n] > most) {
                most = forecast.levels[n];
                best = s;
            }
            forecast.takeOne(now, s, 0, n);
        }
        return best;
    }

    public int adds(int sister, int n) {
        if (isUnknown(sister)) {
            return UNKNOWN;
        }
        if (isOutside(n, 1, MOST_FORETOLD)) {
            return OUTSIDE;
        }
        forecast.takeAll(now, n);
        forecast.run(now.level, now.hole, n);
        int with = forecast.highest;
        forecast.set &= ~(1 << sister);
        forecast.run(now.level, now.hole, n);
        return with - forecast.highest;
    }

    public int fewest(int n) {
        if (isOutside(n, 1, MOST_FORETOLD)) {
            return OUTSIDE;
        }
        int workers = now.workers();
        forecast.takeAll(now, n);
        int best = NONE;
        for (int set = 0; set < 1 << MOST_SISTERS; set++) {
            boolean isOfWorkers = (set & ~workers) == 0;
            boolean isFewer = best == NONE || Integer.bitCount(set) < Integer.bitCount(best);
            if (isOfWorkers && isFewer) {
                forecast.set = set;
                forecast.run(now.level, now.hole, n);
                best = forecast.firstFull == NONE ? best : set;
            }
        }
        return best;
    }

    public int together(int n, int sister) {
        if (sister != NONE && isUnknown(sister)) {
            return UNKNOWN;
        }
        if (isOutside(n, 1, MOST_TOGETHER)) {
            return OUTSIDE;
        }
        delays.search(now, n);
        return sister == NONE ? delays.most : delays.best[sister];
    }

    public int pitch(int p) {
        if (isOutside(p, 0, 9)) {
            return OUTSIDE;
        }
        return firstFull(Math.max(0, now.hole - p));
    }

    // ---- what was seen

    public int seen(int minute, int level) {
        if (isOutside(minute, 0, 99) || isOutside(level, 0, 99)) {
            return OUTSIDE;
        }
        if (seenCount >= MOST_SEEN) {
            return FULL;
        }
        seenMinutes[seenCount] = minute;
        seenLevels[seenCount] = level;
        seenCount++;
        return seenCount;
    }

    public int forget() {
        int had = seenCount;
        seenCount = 0;
        return had;
    }

    public int worked(int what) {
        if (isOutside(what, 0, 2)) {
            return OUTSIDE;
        }
        int n = latestSeen();
        forecast.takeBegun(n);
        int many = 0;
        int least = NONE;
        int inAll = (1 << told.count) - 1;
        for (int set = 0; set < 1 << told.count; set++) {
            forecast.set = set;
            forecast.run(0, told.hole, n);
            if (fitsSeen()) {
                many++;
                least = least == NONE ? set : least;
                inAll &= set;
            }
        }
        switch (what) {
            case 0: return many;
            case 1: return least;
            default: return many == 0 ? 0 : inAll;
        }
    }

    public int leaves(int n, int k, int q, int part) {
        if (isOutside(n, 0, MOST_LEAVES) || isOutside(k, 0, MOST_LEAVES)
                || isOutside(q, 0, 10) || isOutside(part, 0, 1)) {
            return OUTSIDE;
        }
        int above = 0;
        int ways = 1;
        for (int stopped = 0; stopped <= n; stopped++) {
            if (stopped >= k) {
                above += ways * power(q, stopped) * power(10 - q, n - stopped);
            }
            ways = ways * (n - stopped) / (stopped + 1);
        }
        int below = power(10, n);
        int common = commonDivisor(above, below);
        return part == 0 ? above / common : below / common;
    }

    public int count(int what) {
        switch (what) {
            case 0: return told.count;
            case 1: return now.minute;
            case 2: return now.level;
            case 3: return told.height;
            case 4: return now.hole;
            case 5: return now.timesFull;
            case 6: return now.workers();
            case 7: return now.poured;
            case 8: return seenCount;
            case 9: return past.size;
            case 10: return text.length;
            default: return OUTSIDE;
        }
    }

    // ---- helpers of the calls

    private boolean isUnknown(int sister) {
        return sister < 0 || sister >= told.count;
    }

    private static boolean isOutside(int number, int least, int most) {
        return number < least || number > most;
    }

    private static boolean isSuch(int[] above, int own, int asked) {
        int kind = own;
        for (int step = 0; step < above.length; step++) {
            if (kind == asked) {
                return true;
            }
            if (kind < 0 || kind >= above.length) {
                return false;
            }
            kind = above[kind];
        }
        return false;
    }

    private int firstFull(int hole) {
        forecast.takeAll(now, MOST_FORETOLD);
        forecast.run(now.level, hole, MOST_FORETOLD);
        return forecast.firstFull;
    }

    private int latestSeen() {
        int latest = 0;
        for (int i = 0; i < seenCount; i++) {
            latest = Math.max(latest, seenMinutes[i]);
        }
        return latest;
    }

    private boolean fitsSeen() {
        for (int i = 0; i < seenCount; i++) {
            if (forecast.levels[seenMinutes[i]] != seenLevels[i]) {
                return false;
            }
        }
        return true;
    }

    private static int lostByHole(int level, int hole) {
        return (level * hole + HOLE_PARTS - 1) / HOLE_PARTS;
    }

    private static int power(int base, int times) {
        int product = 1;
        for (int i = 0; i < times; i++) {
            product *= base;
        }
        return product;
    }

    /** 1 at least, so that it can divide. */
    private static int commonDivisor(int a, int b) {
        int greater = a;
        int less = b;
        for (int step = 0; step < 64 && less != 0; step++) {
            int left = greater % less;
            greater = less;
            less = left;
        }
        return Math.max(1, greater);
    }

    /** What texts told of a sister and her sieve. */
    private static final class Sister {
        int kind;
        int pace;
        int load;
        int sieve;
        int leak;

        int walk(int rounds) {
            if (kind != RUNNER) {
                return pace;
            }
            return rounds < FRESH_ROUNDS ? Math.max(1, pace - 1) : pace + 1;
        }

        int walkBack(int rounds) {
            return kind == LAZY ? walk(rounds) + LAZY_MINUTES : walk(rounds);
        }

        /** Without moss and frost. */
        int drip() {
            switch (sieve) {
                case LINED: return leak / 2;
                case DOUBLED: return Math.max(0, leak / 2 - 1);
                case TORN: return leak + 2;
                default: return leak;
            }
        }
    }

    /** What minutes change of a sister. */
    private static final class Walker {
        int how;
        int way;
        int drops;
        int rounds;
        int moss;

        void copy(Walker from) {
            how = from.how;
            way = from.way;
            drops = from.drops;
            rounds = from.rounds;
            moss = from.moss;
        }

        void startAnew() {
            sitDown();
            rounds = 0;
            moss = 0;
        }

        void sitDown() {
            how = RESTS;
            way = 0;
            drops = 0;
        }

        void draw(Sister sister) {
            how = WALKS_TO;
            way = sister.walk(rounds);
            drops = sister.load;
        }

        /** A minute of hers: the drops that she pours in it. */
        int passMinute(Sister sister, boolean isFrost) {
            int drip = isFrost ? 0 : sister.drip();
            if (moss > 0) {
                drip = drip / 2;
                moss--;
            }
            if (how == RESTS) {
                return 0;
            }
            drops = Math.max(0, drops - drip);
            way--;
            if (way > 0) {
                return 0;
            }
            if (how == WALKS_TO) {
                return pour(sister);
            }
            rounds++;
            draw(sister);
            return 0;
        }

        private int pour(Sister sister) {
            int poured = drops;
            how = WALKS_BACK;
            way = sister.walkBack(rounds);
            drops = 0;
            return poured;
        }
    }

    /** What minutes change: what is kept, and what undo() brings again. */
    private static final class Scene {
        int minute;
        int level;
        int hole;
        int timesFull;
        int poured;
        final Walker[] walkers;

        Scene() {
            walkers = new Walker[MOST_SISTERS];
            for (int s = 0; s < MOST_SISTERS; s++) {
                walkers[s] = new Walker();
            }
        }

        void copy(Scene from) {
            minute = from.minute;
            level = from.level;
            hole = from.hole;
            timesFull = from.timesFull;
            poured = from.poured;
            for (int s = 0; s < MOST_SISTERS; s++) {
                walkers[s].copy(from.walkers[s]);
            }
        }

        void startAnew(int toldHole) {
            minute = 0;
            level = 0;
            hole = toldHole;
            timesFull = 0;
            poured = 0;
            for (int s = 0; s < MOST_SISTERS; s++) {
                walkers[s].startAnew();
            }
        }

        void passMinute(Told told) {
            boolean isFrost = told.isFrost(minute);
            int drops = 0;
            for (int s = 0; s < told.count; s++) {
                drops += walkers[s].passMinute(told.sisters[s], isFrost);
            }
            poured += drops;
            level = Math.min(told.height, level + drops);
            if (level == told.height) {
                timesFull++;
            }
            level -= lostByHole(level, hole);
            minute++;
        }

        /** Those who do not rest, by bits. */
        int workers() {
            int set = 0;
            for (int s = 0; s < MOST_SISTERS; s++) {
                if (walkers[s].how != RESTS) {
                    set |= 1 << s;
                }
            }
            return set;
        }
    }

    /** The scenes ahead of the latest deeds, the oldest of which is forgotten for a new one. */
    private static final class Past {
        final Scene[] scenes;
        int next;
        int size;

        Past() {
            scenes = new Scene[MOST_UNDONE];
            for (int i = 0; i < MOST_UNDONE; i++) {
                scenes[i] = new Scene();
            }
        }

        void push(Scene scene) {
            scenes[next].copy(scene);
            next = (next + 1) % MOST_UNDONE;
            size = Math.min(MOST_UNDONE, size + 1);
        }

        boolean pop(Scene into) {
            if (size == 0) {
                return false;
            }
            next = (next + MOST_UNDONE - 1) % MOST_UNDONE;
            size--;
            into.copy(scenes[next]);
            return true;
        }
    }

    /** What texts told. */
    private static final class Told {
        final Sister[] sisters;
        int count;
        int sieve;
        int leak;
        int height;
        int hole;
        int frostFrom;
        int frostTo;

        Told() {
            sisters = new Sister[MOST_SISTERS];
            for (int s = 0; s < MOST_SISTERS; s++) {
                sisters[s] = new Sister();
            }
            setAsAtFirst();
        }

        private void setAsAtFirst() {
            count = 0;
            sieve = OPEN;
            leak = 3;
            height = 50;
            hole = 2;
            setFrost(NONE, NONE);
        }

        private void setFrost(int from, int to) {
            frostFrom = from;
            frostTo = to;
        }

        boolean isFrost(int minute) {
            return minute >= frostFrom && minute <= frostTo;
        }

        void hear(int deed, int kind, int first, int second) {
            switch (deed) {
                case DO_WELL: setAsAtFirst(); break;
                case DO_SISTER: addSister(kind, first, second); break;
                case DO_SIEVE: sieve = kind; leak = first; break;
                case DO_TUB: height = first; break;
                case DO_HOLE: hole = first; break;
                case DO_FROST: setFrost(first, second); break;
                default: setFrost(NONE, NONE); break;
            }
        }

        private void addSister(int kind, int pace, int load) {
            if (count >= MOST_SISTERS) {
                return;
            }
            Sister sister = sisters[count];
            sister.kind = kind;
            sister.pace = pace;
            sister.load = load;
            sister.sieve = sieve;
            sister.leak = leak;
            count++;
        }
    }

    /** The words that a clause can begin with. */
    private enum Word {
        WELL("well", DO_WELL, 0),
        PLAIN_SISTER("plain", DO_SISTER, PLAIN),
        RUNNER_SISTER("runner", DO_SISTER, RUNNER),
        LAZY_SISTER("lazy", DO_SISTER, LAZY),
        OPEN_SIEVE("open", DO_SIEVE, OPEN),
        LINED_SIEVE("lined", DO_SIEVE, LINED),
        DOUBLED_SIEVE("doubled", DO_SIEVE, DOUBLED),
        TORN_SIEVE("torn", DO_SIEVE, TORN),
        TUB("tub", DO_TUB, 0),
        HOLE("hole", DO_HOLE, 0),
        FROST("frost", DO_FROST, 0),
        THAW("thaw", DO_THAW, 0);

        final String letters;
        final int deed;
        final int kind;

        Word(String letters, int deed, int kind) {
            this.letters = letters;
            this.deed = deed;
            this.kind = kind;
        }

        /** How many numbers stand behind it. */
        int numbers() {
            switch (deed) {
                case DO_WELL:
                case DO_THAW: return 0;
                case DO_SISTER:
                case DO_FROST: return 2;
                default: return 1;
            }
        }

        /** The least that its number of that place (0, 1) may be, behind the first number. */
        int leastNumber(int place, int first) {
            switch (deed) {
                case DO_SISTER:
                case DO_TUB: return 1;
                case DO_FROST: return place == 0 ? 0 : first;
                default: return 0;
            }
        }

        int mostNumber(int place) {
            switch (deed) {
                case DO_SISTER: return place == 0 ? 6 : 40;
                case DO_TUB:
                case DO_FROST: return 99;
                default: return 9;
            }
        }
    }

    /** The text, and the token of it that is read. */
    private static final class Letters {
        final int[] letters;
        int length;
        int type;
        int from;
        int to;

        Letters() {
            letters = new int[MOST_LETTERS];
        }

        boolean add(int letter) {
            if (length >= MOST_LETTERS) {
                return false;
            }
            letters[length] = letter;
            length++;
            return true;
        }

        void readFromStart() {
            to = 0;
        }

        void readToken() {
            from = to;
            while (from < length && letters[from] == ' ') {
                from++;
            }
            to = from;
            type = typeAt(from);
            if (type == OTHER_TOKEN) {
                to++;
            }
            boolean isRow = type == WORD_TOKEN || type == NUMBER_TOKEN;
            while (isRow && to < length && typeAt(to) == type) {
                to++;
            }
        }

        private int typeAt(int place) {
            if (place < 0 || place >= length) {
                return END_TOKEN;
            }
            int letter = letters[place];
            if (letter >= 'a' && letter <= 'z') {
                return WORD_TOKEN;
            }
            return letter >= '0' && letter <= '9' ? NUMBER_TOKEN : OTHER_TOKEN;
        }

        boolean isWord(String word) {
            if (type != WORD_TOKEN || word.length() != to - from) {
                return false;
            }
            for (int i = 0; i < word.length(); i++) {
                if (word.charAt(i) != letters[from + i]) {
                    return false;
                }
            }
            return true;
        }

        boolean isSemicolon() {
            return type == OTHER_TOKEN && letters[from] == ';';
        }

        /** The number that the token is, or NONE if it is none, or one of too many digits. */
        int number() {
            if (type != NUMBER_TOKEN || to - from > MOST_DIGITS) {
                return NONE;
            }
            int number = 0;
            for (int i = from; i < to; i++) {
                number = number * 10 + letters[i] - '0';
            }
            return number;
        }
    }

    /** The clauses of a text, read to its end or to its first fault. */
    private static final class Clauses {
        private final Word[] allWords;
        final int[] deeds;
        final int[] kinds;
        final int[] firsts;
        final int[] seconds;
        int count;
        private int sisters;

        Clauses() {
            allWords = Word.values();
            deeds = new int[MOST_CLAUSES];
            kinds = new int[MOST_CLAUSES];
            firsts = new int[MOST_CLAUSES];
            seconds = new int[MOST_CLAUSES];
        }

        /** The place of the fault, or NONE. */
        int read(Letters text, int sistersAhead) {
            sisters = sistersAhead;
            count = 0;
            text.readFromStart();
            while (count < MOST_CLAUSES) {
                if (!readClause(text)) {
                    return text.from;
                }
                count++;
                text.readToken();
                if (text.type == END_TOKEN) {
                    return NONE;
                }
                if (!text.isSemicolon()) {
                    return text.from;
                }
            }
            return text.from;
        }

        /** If not, the token that is read is the fault. */
        private boolean readClause(Letters text) {
            text.readToken();
            Word word = findWord(text);
            if (word == null || !countSisters(word)) {
                return false;
            }
            int first = 0;
            int second = 0;
            for (int place = 0; place < word.numbers(); place++) {
                text.readToken();
                int number = text.number();
                if (isOutside(number, word.leastNumber(place, first), word.mostNumber(place))) {
                    return false;
                }
                if (place == 0) {
                    first = number;
                } else {
                    second = number;
                }
            }
            deeds[count] = word.deed;
            kinds[count] = word.kind;
            firsts[count] = first;
            seconds[count] = second;
            return true;
        }

        private Word findWord(Letters text) {
            for (int w = 0; w < allWords.length; w++) {
                if (text.isWord(allWords[w].letters)) {
                    return allWords[w];
                }
            }
            return null;
        }

        private boolean countSisters(Word word) {
            if (word.deed == DO_WELL) {
                sisters = 0;
            } else if (word.deed == DO_SISTER) {
                sisters++;
            }
            return sisters <= MOST_SISTERS;
        }
    }

    /**
     * Minutes foretold. A sister's way hangs on no other sister and not on the tub, so what each
     * pours in each minute is a row of its own, and the tub is run by the rows of a set of sisters.
     */
    private static final class Forecast {
        private final Told told;
        private final int[][] pours;
        private final Walker walker;
        /** levels[m] is LEVEL behind m minutes. */
        final int[] levels;
        int set;
        int highest;
        int firstFull;

        Forecast(Told told) {
            this.told = told;
            pours = new int[MOST_SISTERS][MOST_FORETOLD];
            walker = new Walker();
            levels = new int[MOST_FORETOLD + 1];
        }

        void takeAll(Scene scene, int n) {
            for (int s = 0; s < told.count; s++) {
                walker.copy(scene.walkers[s]);
                fill(s, scene.minute, n);
            }
            set = (1 << told.count) - 1;
        }

        /** With that much moss more than she has. */
        void takeOne(Scene scene, int s, int moss, int n) {
            walker.copy(scene.walkers[s]);
            walker.moss += moss;
            fill(s, scene.minute, n);
        }

        /** As if all had begun in minute 0. */
        void takeBegun(int n) {
            for (int s = 0; s < told.count; s++) {
                walker.startAnew();
                walker.draw(told.sisters[s]);
                fill(s, 0, n);
            }
        }

        private void fill(int s, int minute, int n) {
            for (int m = 0; m < n; m++) {
                pours[s][m] = walker.passMinute(told.sisters[s], told.isFrost(minute + m));
            }
        }

        void run(int level, int hole, int n) {
            int height = told.height;
            levels[0] = level;
            highest = level;
            firstFull = NONE;
            for (int m = 0; m < n; m++) {
                int risen = Math.min(height, levels[m] + pouredIn(m));
                highest = Math.max(highest, risen);
                if (risen == height && firstFull == NONE) {
                    firstFull = m + 1;
                }
                levels[m + 1] = risen - lostByHole(risen, hole);
            }
        }

        private int pouredIn(int m) {
            int drops = 0;
            for (int s = 0; s < told.count; s++) {
                if ((set >> s & 1) != 0) {
                    drops += pours[s][m];
                }
            }
            return drops;
        }
    }

    /** The search for the delays by which the tub comes highest. */
    private static final class Delays {
        private final Told told;
        /** What a sister pours in each minute: row DELAYS * sister + delay. */
        private final int[][] pours;
        /** sums[s] is what all sisters below s pour together, by the delays that are tried. */
        private final int[][] sums;
        private final int[] tried;
        private final Walker walker;
        final int[] best;
        int most;
        private int level;
        private int hole;
        private int minutes;

        Delays(Told told) {
            this.told = told;
            pours = new int[MOST_SISTERS * DELAYS][MOST_TOGETHER];
            sums = new int[MOST_SISTERS + 1][MOST_TOGETHER];
            tried = new int[MOST_SISTERS];
            walker = new Walker();
            best = new int[MOST_SISTERS];
        }

        void search(Scene scene, int n) {
            level = scene.level;
            hole = scene.hole;
            minutes = n;
            most = NONE;
            for (int s = 0; s < told.count; s++) {
                boolean isResting = scene.walkers[s].how == RESTS;
                tried[s] = isResting ? 0 : NONE;
                for (int delay = 0; delay < (isResting ? DELAYS : 1); delay++) {
                    fill(scene, s, delay);
                }
            }
            tryFrom(0);
        }

        private void fill(Scene scene, int s, int delay) {
            int[] row = pours[s * DELAYS + delay];
            walker.copy(scene.walkers[s]);
            for (int m = 0; m < minutes; m++) {
                if (m == delay && walker.how == RESTS) {
                    walker.draw(told.sisters[s]);
                }
                row[m] = walker.passMinute(told.sisters[s], told.isFrost(scene.minute + m));
            }
        }

        /** Goes as deep as there are sisters, 5 at most; the rows of delays come in their order. */
        private void tryFrom(int s) {
            if (s >= told.count || s >= MOST_SISTERS) {
                judge(sums[s]);
                return;
            }
            if (tried[s] == NONE) {
                addRow(s, 0);
                tryFrom(s + 1);
                return;
            }
            for (int delay = 0; delay < DELAYS && most < told.height; delay++) {
                tried[s] = delay;
                addRow(s, delay);
                tryFrom(s + 1);
            }
        }

        private void addRow(int s, int delay) {
            int[] ahead = sums[s];
            int[] row = pours[s * DELAYS + delay];
            int[] sum = sums[s + 1];
            for (int m = 0; m < minutes; m++) {
                sum[m] = ahead[m] + row[m];
            }
        }

        private void judge(int[] sum) {
            int height = told.height;
            int highest = level;
            int left = level;
            for (int m = 0; m < minutes; m++) {
                int risen = Math.min(height, left + sum[m]);
                highest = Math.max(highest, risen);
                left = risen - lostByHole(risen, hole);
            }
            if (highest > most) {
                most = highest;
                System.arraycopy(tried, 0, best, 0, MOST_SISTERS);
            }
        }
    }
}
