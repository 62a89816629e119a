import java.util.Arrays;

/**
 * A river of cells with bars that come and go by days, felt out with a pole. The document
 * (DOC.md) says what each call does; words in capitals here are its words.
 *
 * Nothing is made after the constructor: every row is made once and used again, so that a long
 * run of calls takes no more room than the object itself.
 */
public final class PoleRiver {
    public static final int NONE = -1;

    private static final int BARS = 5;
    private static final int SETS = 32;
    private static final int CELLS = 60;
    private static final int WIDEST = 10;
    private static final int TRAYS = 4;
    private static final int PLACES = 60;
    private static final int LONGEST_WAY = 40;
    private static final int TAPE = 900;
    private static final int RULE_TEXT = 300;
    private static final int STEPS = 30;
    private static final int LINES = 60;
    private static final int NESTED = 3;
    private static final int STAGES = 12;
    private static final int LAST_DAY = 99;
    private static final int LAST_SEED = 9999;
    private static final int MARKS = 3;
    private static final int SOUNDINGS = 3;
    private static final long WHOLE = 1000000L;

    private static final int FINE = 0;
    private static final int IMPOSSIBLE = 1;
    private static final int MISSING = 2;
    private static final int BEYOND = 3;
    private static final int TOO_MANY = 4;
    private static final int NO_CELL = 5;
    private static final int NO_SUCH = 6;
    private static final int CANNOT_BE = 7;
    private static final int UNLIKE = 8;
    private static final int FAULTY = 9;

    private final Tray[] trays = new Tray[TRAYS];
    private final State now = new State();
    private final State[] marks = new State[MARKS];
    private River spareRiver = new River();
    private Rule spareRule = new Rule();
    private final Text text = new Text();
    private final RiverReader riverReader = new RiverReader(text, spareRiver);
    private final RuleReader ruleReader = new RuleReader(text, spareRule, now.river);
    private final Thinker thinker = new Thinker();
    private final Ground ground = new Ground(now.river);
    private final Scout scout = new Scout(ground, now.river);
    private final Game game = new Game(thinker, ground, now);
    private final long[] guess = new long[SETS];
    private final int[] lastGame = new int[Game.TOLD];
    private boolean hasPlayed = false;
    private int markCount = 0;
    private int status = FINE;
    private long top = 0L;
    private long bottom = 1L;

    public PoleRiver() {
        for (int k = 0; k < TRAYS; k++) {
            trays[k] = new Tray();
        }
        for (int k = 0; k < MARKS; k++) {
            marks[k] = new State();
        }
        thinker.think(now.river, now.parts);
    }

    public int status() {
        return status;
    }

    public long top() {
        return top;
    }

    public long bottom() {
        return bottom;
    }

    // ---- TRAYS

    public boolean tray(int tray, int sort, int many) {
        if (!isTray(tray) || sort < 0 || sort > 3 || many < 0 || many > PLACES) {
            return refuse(IMPOSSIBLE);
        }
        trays[tray].lay(sort, many);
        return agree();
    }

    public boolean write(int tray, int place, long v) {
        int wrong = placeStatus(tray, place);
        if (wrong != FINE) {
            return refuse(wrong);
        }
        Tray goal = trays[tray];
        goal.row[place] = goal.cut(v);
        return agree();
    }

    public long read(int tray, int place) {
        int wrong = placeStatus(tray, place);
        if (wrong != FINE) {
            return fail(wrong);
        }
        status = FINE;
        return trays[tray].row[place];
    }

    public boolean pour(int from, int place, int to, int at, int many) {
        if (!isTray(from) || !isTray(to) || place < 0 || at < 0 || many < 0) {
            return refuse(IMPOSSIBLE);
        }
        Tray source = trays[from];
        Tray goal = trays[to];
        if (source.isMissing() || goal.isMissing()) {
            return refuse(MISSING);
        }
        if (source.sort != goal.sort) {
            return refuse(UNLIKE);
        }
        if (!source.holds(place, many) || !goal.holds(at, many)) {
            return refuse(BEYOND);
        }
        System.arraycopy(source.row, place, goal.row, at, many);
        return agree();
    }

    // ---- texts

    public int feed(int a, int b, int c, int d, int e) {
        if (text.many + 20 > TAPE) {
            return NONE;
        }
        text.append(a);
        text.append(b);
        text.append(c);
        text.append(d);
        text.append(e);
        return text.many;
    }

    public int river(int n) {
        if (n < 0 || n > text.many) {
            return fail(IMPOSSIBLE);
        }
        boolean good = riverReader.parse(n, spareRiver);
        text.many = 0;
        if (!good) {
            return fail(FAULTY);
        }
        River old = now.river;
        now.river = spareRiver;
        spareRiver = old;
        startAfresh();
        return answer(now.river.cellCount());
    }

    public int rule(int n) {
        if (n < 0 || n > text.many || n > RULE_TEXT) {
            return fail(IMPOSSIBLE);
        }
        boolean good = ruleReader.parse(n, spareRule, now.river);
        text.many = 0;
        if (!good) {
            return fail(FAULTY);
        }
        Rule old = now.rule;
        now.rule = spareRule;
        spareRule = old;
        return answer(now.rule.steps);
    }

    public int fault(int what) {
        if (what == 0) {
            return text.fault;
        }
        return what == 1 ? text.place : NONE;
    }

    public int told(int what) {
        River r = now.river;
        switch (what) {
            case 0: return answer(r.width);
            case 1: return answer(r.height);
            case 2: return answer(r.bars);
            case 3: return answer(now.day);
            case 4: return answer(now.off);
            case 5: return answer(r.draft);
            case 6: return answer(r.load);
            case 7: return answer(r.straight);
            case 8: return answer(r.slant);
            case 9: return answer(r.turn);
            case 10: return answer(r.lost);
            case 11: return answer(r.pole);
            case 12: return answer(r.water);
            default: return fail(IMPOSSIBLE);
        }
    }

    public int bar(int bar, int what) {
        if (!isBar(bar) || what < 0 || what > 5) {
            return fail(IMPOSSIBLE);
        }
        River r = now.river;
        switch (what) {
            case 0: return answer(r.takes[bar]);
            case 1: return answer(r.chances[bar]);
            case 2: return answer(r.goes[bar]);
            case 3: return answer(r.comes[bar]);
            case 4: return answer(r.cellsOf(bar));
            default: return r.least[bar] == NONE ? fail(NO_SUCH) : answer(r.least[bar]);
        }
    }

    public int barOf(int cell) {
        if (!isCell(cell)) {
            return fail(IMPOSSIBLE);
        }
        int bar = now.river.owners[cell];
        return bar == NONE ? fail(NO_SUCH) : answer(bar);
    }

    public int stage(int day) {
        if (day < 0 || day > LAST_DAY) {
            return fail(IMPOSSIBLE);
        }
        return answer(now.river.stageOn(day));
    }

    public int depth(int cell, int set) {
        if (!isCell(cell) || !isSet(set)) {
            return fail(IMPOSSIBLE);
        }
        return answer(now.river.depthAt(now.river.stageOn(now.day), cell, set));
    }

    public int open(int cell) {
        if (!isCell(cell)) {
            return fail(IMPOSSIBLE);
        }
        ground.look(now.river, now.day, now.off);
        return answer(ground.kindOf(cell));
    }

    // ---- what is THOUGHT

    public int part(int set) {
        if (!isSet(set)) {
            return fail(IMPOSSIBLE);
        }
        return answer((int) now.parts[set]);
    }

    public boolean there(int bar) {
        if (!isBar(bar)) {
            return refuse(IMPOSSIBLE);
        }
        return tellFraction(thinker.partsWith(now.parts, bar), WHOLE);
    }

    public boolean chance(int a) {
        if (!isSet(a)) {
            return refuse(IMPOSSIBLE);
        }
        return tellFraction(thinker.partsWithout(now.parts, a), WHOLE);
    }

    public int pass(int days) {
        if (days < 1 || days > 9) {
            return fail(IMPOSSIBLE);
        }
        if (now.day + days > LAST_DAY) {
            return fail(TOO_MANY);
        }
        for (int k = 0; k < days; k++) {
            thinker.passDay(now.river, now.parts, NONE, 0);
        }
        now.day += days;
        return answer(now.day);
    }

    public boolean sound(int cell, int read) {
        if (!isCell(cell) || read < -9 || read > 30) {
            return refuse(IMPOSSIBLE);
        }
        boolean can = thinker.hearPole(now.river, now.parts, now.day, cell, read);
        return can ? agree() : refuse(CANNOT_BE);
    }

    public boolean colour(int cell, boolean there) {
        if (!isCell(cell)) {
            return refuse(IMPOSSIBLE);
        }
        return thinker.seeWater(now.river, now.parts, cell, there) ? agree() : refuse(CANNOT_BE);
    }

    public boolean off(int n) {
        if (n < 0 || n > now.river.load) {
            return refuse(IMPOSSIBLE);
        }
        now.off = n;
        return agree();
    }

    public boolean forget() {
        startAfresh();
        return agree();
    }

    // ---- ways

    public int minutes(int tray, int many) {
        int wrong = wayStatus(tray, many, 0);
        if (wrong != FINE) {
            return fail(wrong);
        }
        return answer(now.river.minutesAlong(trays[tray].row, many));
    }

    public int struck(int tray, int many, int set) {
        int wrong = wayStatus(tray, many, set);
        if (wrong != FINE) {
            return fail(wrong);
        }
        ground.look(now.river, now.day, now.off);
        int place = ground.firstStruck(trays[tray].row, many, set);
        return place == NONE ? fail(NO_SUCH) : answer(place);
    }

    public boolean sure(int tray, int many) {
        int wrong = wayStatus(tray, many, 0);
        if (wrong != FINE) {
            return refuse(wrong);
        }
        ground.look(now.river, now.day, now.off);
        long unstruck = 0L;
        for (int set = 0; set < now.river.setCount(); set++) {
            if (ground.firstStruck(trays[tray].row, many, set) == NONE) {
                unstruck += now.parts[set];
            }
        }
        return tellFraction(unstruck, WHOLE);
    }

    public int soonest(int from, int to, int a) {
        if (!isCell(from) || !isCell(to) || !isSet(a)) {
            return fail(IMPOSSIBLE);
        }
        ground.look(now.river, now.day, now.off);
        ground.search(from, to);
        if (!ground.hasWay[a]) {
            return fail(NO_SUCH);
        }
        return answer(ground.keepWay(a));
    }

    public int surest(int from, int to) {
        int wrong = choiceStatus(from, to);
        if (wrong != FINE) {
            return fail(wrong);
        }
        ground.chooseSurest(now.parts);
        ground.keepWay(ground.chosen);
        tellFraction(ground.chosenParts, WHOLE);
        return answer(ground.chosen);
    }

    public int mean(int from, int to) {
        int wrong = choiceStatus(from, to);
        if (wrong != FINE) {
            return fail(wrong);
        }
        long least = ground.chooseMean(now.parts);
        ground.keepWay(ground.chosen);
        tellFraction(least, WHOLE);
        return answer(ground.chosen);
    }

    public int length() {
        return ground.keptCells == 0 ? fail(NO_SUCH) : answer(ground.keptCells);
    }

    public int way(int k) {
        if (k < 0 || k >= ground.keptCells) {
            return fail(NO_SUCH);
        }
        return answer(ground.kept[k]);
    }

    // ---- what is worth it

    public boolean worth(int from, int to, int k) {
        if (!isCell(from) || !isCell(to) || k < 0 || k > SOUNDINGS) {
            return refuse(IMPOSSIBLE);
        }
        ground.look(now.river, now.day, now.off);
        ground.search(from, to);
        scout.begin(now, k);
        return tellFraction(scout.worthOf(k), scout.wholeOf(k));
    }

    public int next(int from, int to, int k) {
        if (!isCell(from) || !isCell(to) || k < 1 || k > SOUNDINGS) {
            return fail(IMPOSSIBLE);
        }
        ground.look(now.river, now.day, now.off);
        ground.search(from, to);
        scout.begin(now, k);
        int bar = scout.firstBest(k);
        return bar == NONE ? fail(NO_SUCH) : answer(bar);
    }

    public int lieTo(int from, int to, int days, int cost) {
        if (!isCell(from) || !isCell(to) || days < 0 || days > 9 || cost < 0 || cost > 999999) {
            return fail(IMPOSSIBLE);
        }
        if (now.day + days > LAST_DAY) {
            return fail(TOO_MANY);
        }
        copyParts(now.parts, guess);
        int best = NONE;
        long bestChance = 0L;
        long bestGain = 0L;
        for (int wait = 0; wait <= days; wait++) {
            if (wait > 0) {
                thinker.passDay(now.river, guess, NONE, 0);
            }
            ground.look(now.river, now.day + wait, now.off);
            if (ground.search(from, to)) {
                long chance = ground.bestOf(guess);
                long gain = chance - (long) wait * cost;
                if (best == NONE || gain > bestGain) {
                    best = wait;
                    bestChance = chance;
                    bestGain = gain;
                }
            }
        }
        if (best == NONE) {
            return fail(NO_SUCH);
        }
        tellFraction(bestChance, WHOLE);
        return answer(best);
    }

    public int marked(int from, int to, int many) {
        if (many < 0 || many > now.river.bars) {
            return fail(IMPOSSIBLE);
        }
        int wrong = choiceStatus(from, to);
        if (wrong != FINE) {
            return fail(wrong);
        }
        int best = NONE;
        long bestParts = 0L;
        for (int m = 0; m < now.river.setCount(); m++) {
            if (Integer.bitCount(m) == many) {
                long parts = partsMarked(m);
                if (best == NONE || parts > bestParts) {
                    best = m;
                    bestParts = parts;
                }
            }
        }
        if (best == NONE) {
            return fail(NO_SUCH);
        }
        tellFraction(bestParts, WHOLE);
        return answer(best);
    }

    public boolean tells(int from, int to) {
        int wrong = choiceStatus(from, to);
        if (wrong != FINE) {
            return refuse(wrong);
        }
        ground.chooseSurest(now.parts);
        for (int set = 0; set < SETS; set++) {
            guess[set] = (set & ground.chosen) == 0 ? 0L : now.parts[set];
        }
        return tellFraction(ground.chosenParts + ground.bestOf(guess), WHOLE);
    }

    public int dredged(int from, int to) {
        int wrong = choiceStatus(from, to);
        if (wrong != FINE) {
            return fail(wrong);
        }
        int best = NONE;
        long bestParts = 0L;
        for (int bar = 0; bar < now.river.bars; bar++) {
            long parts = partsDredged(bar);
            if (best == NONE || parts > bestParts) {
                best = bar;
                bestParts = parts;
            }
        }
        if (best == NONE) {
            return fail(NO_SUCH);
        }
        tellFraction(bestParts, WHOLE);
        return answer(best);
    }

    public boolean brush(int from, int to, int bar, int more, int days) {
        if (!isCell(from) || !isCell(to) || !isBar(bar)
                || more < 0 || more > 16 || days < 1 || days > 9) {
            return refuse(IMPOSSIBLE);
        }
        if (now.day + days > LAST_DAY) {
            return refuse(TOO_MANY);
        }
        ground.look(now.river, now.day + days, now.off);
        if (!ground.search(from, to)) {
            return refuse(NO_SUCH);
        }
        copyParts(now.parts, guess);
        for (int k = 0; k < days; k++) {
            thinker.passDay(now.river, guess, bar, more);
        }
        return tellFraction(ground.bestOf(guess), WHOLE);
    }

    public int lighten(int from, int to, int n) {
        if (!isCell(from) || !isCell(to) || n < 1 || n > 16) {
            return fail(IMPOSSIBLE);
        }
        for (int off = 0; off <= now.river.load; off++) {
            ground.look(now.river, now.day, off);
            if (ground.search(from, to) && ground.bestOf(now.parts) * 16L >= n * WHOLE) {
                return answer(off);
            }
        }
        return fail(NO_SUCH);
    }

    // ---- pilots

    public int play(int from, int to, int seed) {
        if (!isCell(from) || !isCell(to) || seed < 0 || seed > LAST_SEED) {
            return fail(IMPOSSIBLE);
        }
        game.begin(now, from, to, seed);
        int end = game.follow();
        System.arraycopy(game.tally, 0, lastGame, 0, Game.TOLD);
        hasPlayed = true;
        return answer(end);
    }

    public int played(int what) {
        if (what < 0 || what >= Game.TOLD) {
            return fail(IMPOSSIBLE);
        }
        return hasPlayed ? answer(lastGame[what]) : fail(NO_SUCH);
    }

    public int tally(int from, int to, int seed, int many, int how) {
        if (!isCell(from) || !isCell(to) || seed < 0 || seed > LAST_SEED
                || many < 1 || many > 30 || how < 0 || how > 3 || seed + many - 1 > LAST_SEED) {
            return fail(IMPOSSIBLE);
        }
        int so = 0;
        for (int k = 0; k < many; k++) {
            game.begin(now, from, to, seed + k);
            if (game.follow() == how) {
                so++;
            }
        }
        return answer(so);
    }

    // ---- MARKS

    public int mark() {
        if (markCount >= MARKS) {
            return fail(TOO_MANY);
        }
        marks[markCount].copyFrom(now);
        markCount++;
        return answer(markCount);
    }

    public int back() {
        if (markCount <= 0) {
            return fail(NO_SUCH);
        }
        markCount--;
        now.copyFrom(marks[markCount]);
        return answer(markCount);
    }

    // ---- what the calls share

    private int fail(int wrong) {
        status = wrong;
        return NONE;
    }

    private boolean refuse(int wrong) {
        status = wrong;
        return false;
    }

    private int answer(int value) {
        status = FINE;
        return value;
    }

    private boolean agree() {
        status = FINE;
        return true;
    }

    private boolean tellFraction(long above, long below) {
        long common = commonDivisor(above, below);
        if (common > 0L) {
            top = above / common;
            bottom = below / common;
        }
        return agree();
    }

    private static long commonDivisor(long a, long b) {
        long greater = a;
        long lesser = b;
        // a long's divisors run out in fewer than a hundred steps
        for (int k = 0; k < 100 && lesser != 0L; k++) {
            long left = greater % lesser;
            greater = lesser;
            lesser = left;
        }
        return greater;
    }

    private static boolean isTray(int tray) {
        return tray >= 0 && tray < TRAYS;
    }

    private boolean isCell(int cell) {
        return cell >= 0 && cell < now.river.cellCount();
    }

    private boolean isBar(int bar) {
        return bar >= 0 && bar < now.river.bars;
    }

    private boolean isSet(int set) {
        return set >= 0 && set < now.river.setCount();
    }

    private int placeStatus(int tray, int place) {
        if (!isTray(tray)) {
            return IMPOSSIBLE;
        }
        if (trays[tray].isMissing()) {
            return MISSING;
        }
        return place >= 0 && place < trays[tray].many ? FINE : BEYOND;
    }

    private int wayStatus(int tray, int many, int set) {
        if (!isTray(tray) || many < 1 || many > LONGEST_WAY || !isSet(set)) {
            return IMPOSSIBLE;
        }
        if (trays[tray].isMissing()) {
            return MISSING;
        }
        if (!trays[tray].holds(0, many)) {
            return BEYOND;
        }
        return now.river.isWay(trays[tray].row, many) ? FINE : NO_CELL;
    }

    /** Looks the ground over for a choice of SUREST from one CELL to another. */
    private int choiceStatus(int from, int to) {
        if (!isCell(from) || !isCell(to)) {
            return IMPOSSIBLE;
        }
        ground.look(now.river, now.day, now.off);
        return ground.search(from, to) ? FINE : NO_SUCH;
    }

    private void startAfresh() {
        now.day = 0;
        now.off = 0;
        thinker.think(now.river, now.parts);
    }

    private static void copyParts(long[] from, long[] to) {
        System.arraycopy(from, 0, to, 0, SETS);
    }

    private long partsMarked(int m) {
        long together = 0L;
        for (int there = 0; there <= m; there++) {
            if ((there & ~m) == 0) {
                for (int set = 0; set < SETS; set++) {
                    guess[set] = (set & m) == there ? now.parts[set] : 0L;
                }
                together += ground.bestOf(guess);
            }
        }
        return together;
    }

    private long partsDredged(int bar) {
        int bit = 1 << bar;
        for (int set = 0; set < SETS; set++) {
            guess[set] = (set & bit) == 0 ? now.parts[set] + now.parts[set | bit] : 0L;
        }
        return ground.bestOf(guess);
    }

    private static final class Tray {
        final long[] row = new long[PLACES];
        int sort = NONE;
        int many = 0;

        boolean isMissing() {
            return sort == NONE;
        }

        void lay(int newSort, int newMany) {
            sort = newSort;
            many = newMany;
            Arrays.fill(row, 0L);
        }

        boolean holds(int place, int count) {
            return place <= many && count <= many - place;
        }

        long cut(long v) {
            switch (sort) {
                case 0: return (byte) v;
                case 1: return (short) v;
                case 2: return (int) v;
                default: return v;
            }
        }
    }

    /** The tape, and the text at its beginning that is taken TOKEN by TOKEN. */
    private static final class Text {
        static final int END = 0;
        static final int WORD = 1;
        static final int NUMBER = 2;
        static final int SIGN = 3;
        static final int UNKNOWN = 4;
        private static final String RESERVED =
                "size row bar takes chance goes comes at to stage less boat draft load straight slant turn lost pole colour ";

        final byte[] bytes = new byte[TAPE];
        int many = 0;
        int limit = 0;
        int at = 0;
        int kind = END;
        int begin = 0;
        long word = 0L;
        int number = 0;
        int taken = 0;
        int fault = NONE;
        int place = NONE;

        void append(int four) {
            for (int shift = 24; shift >= 0 && many < TAPE; shift -= 8) {
                bytes[many] = (byte) (four >>> shift);
                many++;
            }
        }

        void start(int n) {
            limit = n;
            at = 0;
            fault = 0;
            place = NONE;
            advance();
        }

        /** To the next TOKEN. A WORD is kept as a number, five bits a letter: 0 for one too long. */
        void advance() {
            while (at < limit && (bytes[at] == 10 || bytes[at] == 32)) {
                at++;
            }
            begin = at;
            kind = END;
            word = 0L;
            number = 0;
            if (at >= limit) {
                return;
            }
            kind = kindOfByte(bytes[at]);
            int most = kind == WORD || kind == NUMBER ? limit : at + 1;
            while (at < most && kindOfByte(bytes[at]) == kind) {
                if (kind == WORD) {
                    word = at - begin < 8 ? word * 32L + (bytes[at] - 'a' + 1) : 0L;
                } else if (at - begin < 4) {
                    number = number * 10 + (bytes[at] - '0');
                }
                at++;
            }
            if (kind == NUMBER && at - begin > 4) {
                kind = UNKNOWN;
            }
        }

        /** The kind of TOKEN that begins so. */
        private static int kindOfByte(int c) {
            if (c >= 'a' && c <= 'z') {
                return WORD;
            }
            if (c >= '0' && c <= '9') {
                return NUMBER;
            }
            return c == ';' ? SIGN : UNKNOWN;
        }

        boolean is(String other) {
            int letters = other.length();
            if (kind != WORD || letters != at - begin) {
                return false;
            }
            for (int k = 0; k < letters; k++) {
                if (bytes[begin + k] != other.charAt(k)) {
                    return false;
                }
            }
            return true;
        }

        boolean fail(int what) {
            fault = what;
            place = begin;
            return false;
        }

        /** The FAULT of a TOKEN where another one must stand. */
        boolean failHere() {
            fault = kind == UNKNOWN ? 1 : 2;
            place = begin;
            return false;
        }

        boolean takeWord(String asked) {
            if (!is(asked)) {
                return failHere();
            }
            advance();
            return true;
        }

        boolean takeSign() {
            if (kind != SIGN) {
                return failHere();
            }
            advance();
            return true;
        }

        /** Whether such a NUMBER stands here: it is not passed, as more may be wrong with it. */
        boolean isNumber(int least, int most) {
            if (kind != NUMBER) {
                return failHere();
            }
            return (number >= least && number <= most) || fail(4);
        }

        boolean takeNumber(int least, int most) {
            if (!isNumber(least, most)) {
                return false;
            }
            taken = number;
            advance();
            return true;
        }

        boolean takePair(String asked, int least, int most) {
            return takeWord(asked) && takeNumber(least, most);
        }

        boolean isName() {
            return (kind == WORD && word != 0L && !isReserved()) || failHere();
        }

        private boolean isReserved() {
            long code = 0L;
            for (int k = 0; k < RESERVED.length(); k++) {
                char c = RESERVED.charAt(k);
                if (c != ' ') {
                    code = code * 32L + (c - 'a' + 1);
                } else if (code == word) {
                    return true;
                } else {
                    code = 0L;
                }
            }
            return false;
        }
    }

    private static final class River {
        // headings by eighths of a turn, from the right round by below
        private static final int[] ACROSS = {1, 1, 0, -1, -1, -1, 0, 1};
        private static final int[] DOWN = {0, 1, 1, 1, 0, -1, -1, -1};

        int width;
        int height;
        int bars;
        int draft;
        int load;
        int straight;
        int slant;
        int turn;
        int lost;
        int pole;
        int water;
        final int[] depths = new int[CELLS];
        final int[] owners = new int[CELLS];
        final int[] stages = new int[STAGES];
        final long[] names = new long[BARS];
        final int[] takes = new int[BARS];
        final int[] chances = new int[BARS];
        final int[] goes = new int[BARS];
        final int[] comes = new int[BARS];
        final int[] least = new int[BARS];

        River() {
            clear();
        }

        void clear() {
            width = 0;
            height = 0;
            bars = 0;
            draft = 4;
            load = 0;
            straight = 10;
            slant = 14;
            turn = 1;
            lost = 120;
            pole = 12;
            water = 11;
            Arrays.fill(depths, 0);
            Arrays.fill(owners, NONE);
            Arrays.fill(stages, 0);
        }

        void copyFrom(River other) {
            width = other.width;
            height = other.height;
            bars = other.bars;
            draft = other.draft;
            load = other.load;
            straight = other.straight;
            slant = other.slant;
            turn = other.turn;
            lost = other.lost;
            pole = other.pole;
            water = other.water;
            System.arraycopy(other.depths, 0, depths, 0, CELLS);
            System.arraycopy(other.owners, 0, owners, 0, CELLS);
            System.arraycopy(other.stages, 0, stages, 0, STAGES);
            System.arraycopy(other.names, 0, names, 0, BARS);
            System.arraycopy(other.takes, 0, takes, 0, BARS);
            System.arraycopy(other.chances, 0, chances, 0, BARS);
            System.arraycopy(other.goes, 0, goes, 0, BARS);
            System.arraycopy(other.comes, 0, comes, 0, BARS);
            System.arraycopy(other.least, 0, least, 0, BARS);
        }

        int cellCount() {
            return width * height;
        }

        int setCount() {
            return 1 << bars;
        }

        int barNamed(long name) {
            for (int bar = 0; bar < bars; bar++) {
                if (names[bar] == name) {
                    return bar;
                }
            }
            return NONE;
        }

        int cellsOf(int bar) {
            int count = 0;
            for (int cell = 0; cell < cellCount(); cell++) {
                if (owners[cell] == bar) {
                    count++;
                }
            }
            return count;
        }

        int stageOn(int day) {
            return day >= 0 && day < STAGES ? stages[day] : 0;
        }

        int depthAt(int stage, int cell, int set) {
            int bar = owners[cell];
            int taken = bar != NONE && ((set >> bar) & 1) == 1 ? takes[bar] : 0;
            return depths[cell] + stage - taken;
        }

        /** How likely of thirty-two a pole reads so where it is so deep. */
        int likelyRead(int read, int depth) {
            if (read == depth) {
                return 2 * pole;
            }
            return read == depth + 1 || read == depth - 1 ? 16 - pole : 0;
        }

        /** The CELL from one by a heading, or NONE. */
        int beside(int cell, int heading) {
            if (width <= 0) {
                return NONE;
            }
            int x = cell % width + ACROSS[heading & 7];
            int y = cell / width + DOWN[heading & 7];
            return x >= 0 && x < width && y >= 0 && y < height ? y * width + x : NONE;
        }

        /** The heading from a CELL to the one next to it, or NONE. */
        int headingTo(int cell, long other) {
            for (int heading = 0; heading < 8; heading++) {
                int next = beside(cell, heading);
                if (next != NONE && next == other) {
                    return heading;
                }
            }
            return NONE;
        }

        int stepMinutes(int heading) {
            return (heading & 1) == 0 ? straight : slant;
        }

        int turnMinutes(int ahead, int heading) {
            if (ahead == NONE) {
                return 0;
            }
            int eighths = (heading - ahead) & 7;
            return turn * (eighths > 4 ? 8 - eighths : eighths);
        }

        boolean isWay(long[] cells, int many) {
            for (int k = 0; k < many; k++) {
                if (cells[k] < 0L || cells[k] >= cellCount()) {
                    return false;
                }
                if (k > 0 && headingTo((int) cells[k - 1], cells[k]) == NONE) {
                    return false;
                }
            }
            return true;
        }

        int minutesAlong(long[] cells, int many) {
            int together = 0;
            int ahead = NONE;
            for (int k = 1; k < many; k++) {
                int heading = headingTo((int) cells[k - 1], cells[k]);
                together += stepMinutes(heading) + turnMinutes(ahead, heading);
                ahead = heading;
            }
            return together;
        }
    }

    private static final class RiverReader {
        final Text text;
        River river;
        int rows = 0;
        boolean hasStage = false;
        boolean hasBoat = false;
        boolean hasPole = false;
        boolean hasColour = false;

        RiverReader(Text text, River river) {
            this.text = text;
            this.river = river;
        }

        boolean parse(int n, River into) {
            river = into;
            river.clear();
            rows = 0;
            hasStage = false;
            hasBoat = false;
            hasPole = false;
            hasColour = false;
            text.start(n);
            if (!takeSize()) {
                return false;
            }
            for (int k = 0; k < TAPE && text.kind != Text.END; k++) {
                if (!takePart()) {
                    return false;
                }
            }
            return true;
        }

        private boolean takeSize() {
            if (!text.takePair("size", 2, WIDEST)) {
                return false;
            }
            river.width = text.taken;
            if (!text.takeNumber(2, 6)) {
                return false;
            }
            river.height = text.taken;
            return text.takeSign();
        }

        private boolean takePart() {
            if (text.is("row")) {
                return takeRow();
            }
            if (text.is("bar")) {
                return takeBar();
            }
            if (text.is("at")) {
                return takeAt();
            }
            if (text.is("stage")) {
                return takeStage();
            }
            if (text.is("boat")) {
                return takeBoat();
            }
            if (text.is("pole")) {
                return takePole();
            }
            return text.is("colour") ? takeColour() : text.failHere();
        }

        private boolean takeRow() {
            if (rows >= river.height) {
                return text.fail(6);
            }
            text.advance();
            int many = 0;
            while (many <= WIDEST && (many == 0 || text.kind != Text.SIGN)) {
                if (!text.isNumber(0, 20)) {
                    return false;
                }
                if (many >= river.width) {
                    return text.fail(6);
                }
                river.depths[rows * river.width + many] = text.number;
                many++;
                text.advance();
            }
            if (many < river.width) {
                return text.fail(7);
            }
            rows++;
            return text.takeSign();
        }

        private boolean takeBar() {
            int bar = river.bars;
            if (bar >= BARS) {
                return text.fail(6);
            }
            text.advance();
            if (!text.isName()) {
                return false;
            }
            if (river.barNamed(text.word) != NONE) {
                return text.fail(3);
            }
            river.names[bar] = text.word;
            river.least[bar] = NONE;
            text.advance();
            if (!text.takePair("takes", 1, 9)) {
                return false;
            }
            river.takes[bar] = text.taken;
            if (!text.takePair("chance", 0, 16)) {
                return false;
            }
            river.chances[bar] = text.taken;
            if (!text.takePair("goes", 0, 16)) {
                return false;
            }
            river.goes[bar] = text.taken;
            if (!text.takePair("comes", 0, 16)) {
                return false;
            }
            river.comes[bar] = text.taken;
            river.bars++;
            return text.takeSign();
        }

        private boolean takeAt() {
            text.advance();
            if (!text.isName()) {
                return false;
            }
            int bar = river.barNamed(text.word);
            if (bar == NONE) {
                return text.fail(3);
            }
            text.advance();
            if (!text.takeNumber(0, river.width - 1)) {
                return false;
            }
            int left = text.taken;
            if (!text.takeNumber(0, river.height - 1)) {
                return false;
            }
            int upper = text.taken;
            if (!text.takePair("to", left, river.width - 1)) {
                return false;
            }
            int right = text.taken;
            if (!text.isNumber(upper, river.height - 1)) {
                return false;
            }
            if (!giveCells(bar, left, upper, right, text.number)) {
                return text.fail(5);
            }
            text.advance();
            return text.takeSign();
        }

        private boolean giveCells(int bar, int left, int upper, int right, int lower) {
            for (int y = upper; y <= lower; y++) {
                for (int x = left; x <= right; x++) {
                    int cell = y * river.width + x;
                    if (river.owners[cell] != NONE) {
                        return false;
                    }
                    river.owners[cell] = bar;
                    if (river.least[bar] == NONE || cell < river.least[bar]) {
                        river.least[bar] = cell;
                    }
                }
            }
            return true;
        }

        private boolean takeStage() {
            if (hasStage) {
                return text.fail(5);
            }
            hasStage = true;
            text.advance();
            int days = 0;
            while (days <= STAGES && (days == 0 || text.kind != Text.SIGN)) {
                boolean less = text.is("less");
                if (less) {
                    if (days >= STAGES) {
                        return text.fail(6);
                    }
                    text.advance();
                }
                if (!text.isNumber(0, 9)) {
                    return false;
                }
                if (days >= STAGES) {
                    return text.fail(6);
                }
                river.stages[days] = less ? -text.number : text.number;
                days++;
                text.advance();
            }
            return text.takeSign();
        }

        private boolean takeBoat() {
            if (hasBoat) {
                return text.fail(5);
            }
            hasBoat = true;
            text.advance();
            if (!text.takePair("draft", 1, 20)) {
                return false;
            }
            river.draft = text.taken;
            if (!text.takePair("load", 0, Math.min(9, river.draft - 1))) {
                return false;
            }
            river.load = text.taken;
            if (!text.takePair("straight", 1, 99)) {
                return false;
            }
            river.straight = text.taken;
            if (!text.takePair("slant", 1, 99)) {
                return false;
            }
            river.slant = text.taken;
            if (!text.takePair("turn", 0, 99)) {
                return false;
            }
            river.turn = text.taken;
            if (!text.takePair("lost", 0, 999)) {
                return false;
            }
            river.lost = text.taken;
            return text.takeSign();
        }

        private boolean takePole() {
            if (hasPole) {
                return text.fail(5);
            }
            hasPole = true;
            if (!text.takePair("pole", 0, 16)) {
                return false;
            }
            river.pole = text.taken;
            return text.takeSign();
        }

        private boolean takeColour() {
            if (hasColour) {
                return text.fail(5);
            }
            hasColour = true;
            if (!text.takePair("colour", 0, 16)) {
                return false;
            }
            river.water = text.taken;
            return text.takeSign();
        }
    }

    /** The STEPS of a RULE line by line, each end a line of its own. */
    private static final class Rule {
        static final int END = 0;
        static final int SOUND = 1;
        static final int COLOUR = 2;
        static final int WAIT = 3;
        static final int OFF = 4;
        static final int WHEN = 5;
        static final int LOOP = 6;
        static final int GO = 7;
        static final int STOP = 8;
        static final int THERE = 9;
        static final int GONE = 10;
        static final int SURE = 11;

        int lines = 0;
        int steps = 0;
        final int[] does = new int[LINES];
        final int[] bars = new int[LINES];
        final int[] numbers = new int[LINES];
        final int[] partners = new int[LINES];

        void copyFrom(Rule other) {
            lines = other.lines;
            steps = other.steps;
            System.arraycopy(other.does, 0, does, 0, LINES);
            System.arraycopy(other.bars, 0, bars, 0, LINES);
            System.arraycopy(other.numbers, 0, numbers, 0, LINES);
            System.arraycopy(other.partners, 0, partners, 0, LINES);
        }

        /** A line more, if there is room: its number, or NONE. */
        int add(int doing) {
            int line = lines;
            if (line >= LINES) {
                return NONE;
            }
            does[line] = doing;
            bars[line] = NONE;
            numbers[line] = 0;
            partners[line] = NONE;
            lines++;
            return line;
        }
    }

    private static final class RuleReader {
        final Text text;
        final int[] opened = new int[NESTED];
        Rule rule;
        River river;
        int deep = 0;

        RuleReader(Text text, Rule rule, River river) {
            this.text = text;
            this.rule = rule;
            this.river = river;
        }

        boolean parse(int n, Rule into, River names) {
            rule = into;
            river = names;
            deep = 0;
            rule.lines = 0;
            rule.steps = 0;
            text.start(n);
            for (int k = 0; k < RULE_TEXT && text.kind != Text.END; k++) {
                if (!(text.is("end") ? takeEnd() : takeStep())) {
                    return false;
                }
            }
            return deep == 0 || text.failHere();
        }

        private boolean takeEnd() {
            // there are lines for every STEP and its end, so that only deep refuses
            int line = deep == 0 ? NONE : rule.add(Rule.END);
            if (line == NONE) {
                return text.failHere();
            }
            deep--;
            int opening = opened[deep];
            rule.partners[line] = opening;
            rule.partners[opening] = line;
            text.advance();
            return text.takeSign();
        }

        private boolean takeStep() {
            int does = wordOfStep();
            if (does == NONE) {
                return text.failHere();
            }
            int line = rule.steps >= STEPS ? NONE : rule.add(does);
            if (line == NONE) {
                return text.fail(6);
            }
            boolean opens = does == Rule.WHEN || does == Rule.LOOP;
            if (opens && deep >= NESTED) {
                return text.fail(7);
            }
            text.advance();
            if (!takeRest(line, does) || !text.takeSign()) {
                return false;
            }
            if (opens) {
                opened[deep] = line;
                deep++;
            }
            rule.steps++;
            return true;
        }

        private int wordOfStep() {
            if (text.is("sound")) {
                return Rule.SOUND;
            }
            if (text.is("colour")) {
                return Rule.COLOUR;
            }
            if (text.is("wait")) {
                return Rule.WAIT;
            }
            if (text.is("off")) {
                return Rule.OFF;
            }
            if (text.is("when")) {
                return Rule.WHEN;
            }
            if (text.is("loop")) {
                return Rule.LOOP;
            }
            if (text.is("go")) {
                return Rule.GO;
            }
            return text.is("stop") ? Rule.STOP : NONE;
        }

        private boolean takeRest(int line, int does) {
            switch (does) {
                case Rule.SOUND:
                case Rule.COLOUR: return takeBarName(line);
                case Rule.WAIT:
                case Rule.LOOP: return takeCount(line, 1, 9);
                case Rule.OFF: return takeCount(line, 0, 9);
                case Rule.WHEN: return takeWhat(line) && takeCount(line, 0, 16);
                default: return true;
            }
        }

        private boolean takeWhat(int line) {
            if (text.is("sure")) {
                rule.does[line] = Rule.SURE;
                text.advance();
                return true;
            }
            if (text.is("there")) {
                rule.does[line] = Rule.THERE;
            } else if (text.is("gone")) {
                rule.does[line] = Rule.GONE;
            } else {
                return text.failHere();
            }
            text.advance();
            return takeBarName(line);
        }

        private boolean takeBarName(int line) {
            if (!text.isName()) {
                return false;
            }
            int bar = river.barNamed(text.word);
            if (bar == NONE) {
                return text.fail(3);
            }
            rule.bars[line] = bar;
            text.advance();
            return true;
        }

        private boolean takeCount(int line, int least, int most) {
            if (!text.takeNumber(least, most)) {
                return false;
            }
            rule.numbers[line] = text.taken;
            return true;
        }
    }

    /** What a MARK keeps. */
    private static final class State {
        River river = new River();
        Rule rule = new Rule();
        final long[] parts = new long[SETS];
        int day = 0;
        int off = 0;

        void copyFrom(State other) {
            river.copyFrom(other.river);
            rule.copyFrom(other.rule);
            copyParts(other.parts, parts);
            day = other.day;
            off = other.off;
        }
    }

    /** How THOUGHT changes: each change weighs all sets and shares out. */
    private static final class Thinker {
        final long[] weights = new long[SETS];

        void think(River river, long[] parts) {
            Arrays.fill(weights, 0L);
            for (int set = 0; set < river.setCount(); set++) {
                weights[set] = 1L;
                for (int bar = 0; bar < river.bars; bar++) {
                    boolean in = ((set >> bar) & 1) == 1;
                    weights[set] *= in ? river.chances[bar] : 16 - river.chances[bar];
                }
            }
            shareOut(parts);
        }

        /** A DAY goes by, with one BAR (or NONE) that GOES with so many sixteenths more. */
        void passDay(River river, long[] parts, int brushed, int more) {
            copyParts(parts, weights);
            int sets = river.setCount();
            for (int bar = 0; bar < river.bars; bar++) {
                int goes = river.goes[bar];
                if (bar == brushed) {
                    goes = Math.min(16, goes + more);
                }
                int comes = river.comes[bar];
                int bit = 1 << bar;
                for (int set = 0; set < sets; set++) {
                    if ((set & bit) == 0) {
                        long without = weights[set];
                        long with = weights[set | bit];
                        weights[set] = without * (16 - comes) + with * goes;
                        weights[set | bit] = without * comes + with * (16 - goes);
                    }
                }
            }
            shareOut(parts);
        }

        /** A SOUNDING; false, and nothing changed, if it can't be. */
        boolean hearPole(River river, long[] parts, int day, int cell, int read) {
            int stage = river.stageOn(day);
            for (int set = 0; set < SETS; set++) {
                int depth = river.depthAt(stage, cell, set);
                weights[set] = parts[set] * river.likelyRead(read, depth);
            }
            return shareOut(parts);
        }

        /** COLOUR of a CELL; false, and nothing changed, if it can't be. */
        boolean seeWater(River river, long[] parts, int cell, boolean there) {
            int bar = river.owners[cell];
            for (int set = 0; set < SETS; set++) {
                boolean is = bar != NONE && ((set >> bar) & 1) == 1;
                weights[set] = parts[set] * (is == there ? river.water : 16 - river.water);
            }
            return shareOut(parts);
        }

        /** All weights stay so small that WHOLE of them fit: 16 by the fifth times 1,000,000. */
        private boolean shareOut(long[] parts) {
            long together = 0L;
            int greatest = 0;
            for (int set = 0; set < SETS; set++) {
                together += weights[set];
                if (weights[set] > weights[greatest]) {
                    greatest = set;
                }
            }
            if (together <= 0L) {
                return false;
            }
            long lacking = WHOLE;
            for (int set = 0; set < SETS; set++) {
                parts[set] = weights[set] * WHOLE / together;
                lacking -= parts[set];
            }
            parts[greatest] += lacking;
            return true;
        }

        long partsWith(long[] parts, int bar) {
            long together = 0L;
            for (int set = 0; set < SETS; set++) {
                if (((set >> bar) & 1) == 1) {
                    together += parts[set];
                }
            }
            return together;
        }

        long partsWithout(long[] parts, int a) {
            long together = 0L;
            for (int set = 0; set < SETS; set++) {
                if ((set & a) == 0) {
                    together += parts[set];
                }
            }
            return together;
        }
    }

    /**
     * The CELLS as they are to a boat on one day, and the ways over them between two CELLS. Sets of
     * CELLS are bits of a long, as there are at most 60.
     */
    private static final class Ground {
        private static final int FAR = 1000000000;
        // headings by the CELL they lead to, the least first
        private static final int[] BY_CELL = {5, 6, 7, 4, 0, 3, 2, 1};

        final boolean[] hasWay = new boolean[SETS];
        final int[] leastSets = new int[SETS];
        int leastCount = 0;
        final long[] sums = new long[SETS];
        final long[] barCells = new long[BARS];
        final int[] rest = new int[CELLS * 8];
        final int[] kept = new int[CELLS];
        int keptCells = 0;
        int chosen = NONE;
        int chosenMinutes = 0;
        long chosenParts = 0L;
        private River river;
        private int stage = 0;
        private int need = 0;
        private int from = 0;
        private int to = 0;
        private long openCells = 0L;
        private long leftEdge = 0L;
        private long rightEdge = 0L;

        Ground(River river) {
            this.river = river;
        }

        void look(River newRiver, int day, int off) {
            river = newRiver;
            stage = river.stageOn(day);
            need = river.draft - off;
            openCells = 0L;
            leftEdge = 0L;
            Arrays.fill(barCells, 0L);
            for (int cell = 0; cell < river.cellCount(); cell++) {
                int kind = kindOf(cell);
                int bar = river.owners[cell];
                if (kind == 2) {
                    openCells |= 1L << cell;
                } else if (kind == 1 && bar != NONE) {
                    barCells[bar] |= 1L << cell;
                }
            }
            for (int y = 0; y < river.height; y++) {
                leftEdge |= 1L << (y * river.width);
            }
            rightEdge = leftEdge << (river.width - 1);
        }

        /** 2: OPEN, 1: of its BAR, 0: SHUT. */
        int kindOf(int cell) {
            if (river.depthAt(stage, cell, SETS - 1) >= need) {
                return 2;
            }
            return river.depthAt(stage, cell, 0) >= need ? 1 : 0;
        }

        int firstStruck(long[] cells, int many, int set) {
            for (int k = 0; k < many; k++) {
                if (river.depthAt(stage, (int) cells[k], set) < need) {
                    return k;
                }
            }
            return NONE;
        }

        /** Finds the sets A with a way; false if there is none. */
        boolean search(int newFrom, int newTo) {
            from = newFrom;
            to = newTo;
            leastCount = 0;
            for (int a = 0; a < river.setCount(); a++) {
                hasWay[a] = hasWayByLess(a);
                if (!hasWay[a] && reaches(cellsBy(a))) {
                    hasWay[a] = true;
                    leastSets[leastCount] = a;
                    leastCount++;
                }
            }
            // what all BARS gone do not open, nothing does
            return hasWay[river.setCount() - 1];
        }

        private boolean hasWayByLess(int a) {
            for (int bar = 0; bar < river.bars; bar++) {
                if (((a >> bar) & 1) == 1 && hasWay[a ^ (1 << bar)]) {
                    return true;
                }
            }
            return false;
        }

        private long cellsBy(int a) {
            long cells = openCells;
            for (int bar = 0; bar < river.bars; bar++) {
                if (((a >> bar) & 1) == 1) {
                    cells |= barCells[bar];
                }
            }
            return cells;
        }

        private boolean reaches(long cells) {
            long goal = 1L << to;
            long reached = (1L << from) & cells;
            for (int k = 0; k < CELLS; k++) {
                long more = spread(reached) & cells;
                if (more == reached) {
                    break;
                }
                reached = more;
            }
            return (reached & goal) != 0L;
        }

        /** CELLS and all that are next to them; bits beyond the river may be set. */
        private long spread(long cells) {
            long wide = cells | ((cells & ~leftEdge) >>> 1) | ((cells & ~rightEdge) << 1);
            return wide | (wide >>> river.width) | (wide << river.width);
        }

        /**
         * The greatest CHANCE of all A with a way, of such weights of the sets; 0 without any. Only
         * the least A are looked at, as more BARS in it make no CHANCE greater.
         */
        long bestOf(long[] weights) {
            sumUp(weights);
            long best = 0L;
            for (int k = 0; k < leastCount; k++) {
                best = Math.max(best, sumWithout(leastSets[k]));
            }
            return best;
        }

        /** Of each set the weights of all sets within it. */
        private void sumUp(long[] weights) {
            copyParts(weights, sums);
            int sets = river.setCount();
            for (int bit = 1; bit < sets; bit <<= 1) {
                for (int set = 0; set < sets; set++) {
                    if ((set & bit) != 0) {
                        sums[set] += sums[set ^ bit];
                    }
                }
            }
        }

        private long sumWithout(int a) {
            return sums[(river.setCount() - 1) & ~a];
        }

        /** SUREST, if search() found a way: its A, MINUTES and parts. */
        void chooseSurest(long[] parts) {
            chosenParts = bestOf(parts);
            chosen = NONE;
            chosenMinutes = FAR;
            for (int a = 0; a < river.setCount(); a++) {
                if (hasWay[a] && sumWithout(a) == chosenParts) {
                    int minutes = soonestBy(a);
                    if (minutes < chosenMinutes) {
                        chosen = a;
                        chosenMinutes = minutes;
                    }
                }
            }
        }

        /** MEAN, if search() found a way: its A; the answer is 1,000,000 times it. */
        long chooseMean(long[] parts) {
            sumUp(parts);
            chosen = NONE;
            long least = 0L;
            for (int a = 0; a < river.setCount(); a++) {
                if (hasWay[a]) {
                    long mean = soonestBy(a) * WHOLE + river.lost * likelyThere(a);
                    if (chosen == NONE || mean < least) {
                        chosen = a;
                        least = mean;
                    }
                }
            }
            return least;
        }

        /** Of each BAR in a set the parts with which it is THERE, together. */
        private long likelyThere(int a) {
            long together = 0L;
            for (int bar = 0; bar < river.bars; bar++) {
                if (((a >> bar) & 1) == 1) {
                    together += WHOLE - sumWithout(1 << bar);
                }
            }
            return together;
        }

        /** MINUTES of SOONEST by a set A that has a way. */
        int soonestBy(int a) {
            long cells = cellsBy(a);
            long goal = 1L << to;
            Arrays.fill(rest, FAR);
            for (int heading = 0; heading < 8; heading++) {
                rest[to * 8 + heading] = 0;
            }
            long stale = spread(goal) & cells & ~goal;
            // no soonest way comes to a CELL twice, so this many rounds settle all
            for (int round = 0; round < CELLS && stale != 0L; round++) {
                long better = 0L;
                for (int cell = 0; cell < river.cellCount(); cell++) {
                    if (((stale >>> cell) & 1L) == 1L && settle(cell)) {
                        better |= 1L << cell;
                    }
                }
                stale = spread(better) & cells & ~goal;
            }
            return from == to ? 0 : minutesBy(from, soonestHeading(from, NONE));
        }

        /** Lessens the minutes from a CELL on for each heading come by; whether any is less. */
        private boolean settle(int cell) {
            boolean better = false;
            for (int heading = 0; heading < 8; heading++) {
                int through = minutesBy(cell, heading);
                if (through < FAR) {
                    for (int ahead = 0; ahead < 8; ahead++) {
                        int minutes = through + river.turnMinutes(ahead, heading);
                        if (minutes < rest[cell * 8 + ahead]) {
                            rest[cell * 8 + ahead] = minutes;
                            better = true;
                        }
                    }
                }
            }
            return better;
        }

        /** Minutes from a CELL to the end if the step is by such a heading; its turn not counted. */
        private int minutesBy(int cell, int heading) {
            int next = river.beside(cell, heading);
            if (next == NONE || rest[next * 8 + heading] >= FAR) {
                return FAR;
            }
            return rest[next * 8 + heading] + river.stepMinutes(heading);
        }

        /** From a CELL come to by a heading (or NONE) on: of several as soon to the least CELL. */
        private int soonestHeading(int cell, int ahead) {
            int soonest = BY_CELL[0];
            int least = FAR;
            for (int heading : BY_CELL) {
                int minutes = minutesBy(cell, heading) + river.turnMinutes(ahead, heading);
                if (minutes < least) {
                    soonest = heading;
                    least = minutes;
                }
            }
            return soonest;
        }

        /** Keeps the way by a set A that has one: its MINUTES. */
        int keepWay(int a) {
            int minutes = soonestBy(a);
            int cell = from;
            int ahead = NONE;
            keptCells = 1;
            kept[0] = from;
            while (cell != to && keptCells < CELLS) {
                ahead = soonestHeading(cell, ahead);
                int next = river.beside(cell, ahead);
                if (next == NONE) {
                    break;
                }
                cell = next;
                kept[keptCells] = cell;
                keptCells++;
            }
            return minutes;
        }
    }

    /** WORTH of SOUNDINGS, from the last back, in whole weights: nothing is shared out. */
    private static final class Scout {
        final Ground ground;
        // row k: the sets' weights while k SOUNDINGS are left
        final long[][] weights = new long[SOUNDINGS + 1][SETS];
        River river;
        int stage = 0;
        boolean canSound = false;

        Scout(Ground ground, River river) {
            this.ground = ground;
            this.river = river;
        }

        void begin(State state, int k) {
            river = state.river;
            stage = river.stageOn(state.day);
            copyParts(state.parts, weights[k]);
            canSound = false;
            for (int bar = 0; bar < river.bars; bar++) {
                canSound |= river.least[bar] != NONE;
            }
        }

        /** What all weights come to: each SOUNDING makes them thirty-two times as many. */
        long wholeOf(int k) {
            return canSound ? WHOLE << (5 * k) : WHOLE;
        }

        /** WORTH of k SOUNDINGS; it and worthAt call one another, k less by one each time. */
        private long worthOf(int k) {
            if (k <= 0 || !canSound) {
                return ground.bestOf(weights[Math.max(0, k)]);
            }
            long best = 0L;
            for (int bar = 0; bar < river.bars; bar++) {
                if (river.least[bar] != NONE) {
                    best = Math.max(best, worthAt(bar, k));
                }
            }
            return best;
        }

        int firstBest(int k) {
            int first = NONE;
            long best = 0L;
            for (int bar = 0; bar < river.bars; bar++) {
                if (river.least[bar] != NONE) {
                    long worth = worthAt(bar, k);
                    if (first == NONE || worth > best) {
                        first = bar;
                        best = worth;
                    }
                }
            }
            return first;
        }

        /**
         * WORTH if this BAR is sounded first. Readings that leave the same sets in the same measure
         * are taken as one, as WORTH grows as its weights do: that spares most of the work.
         */
        private long worthAt(int bar, int k) {
            int without = river.depthAt(stage, river.least[bar], 0);
            int with = without - river.takes[bar];
            int onlyWith = 0;
            int onlyWithout = 0;
            long together = 0L;
            for (int read = with - 1; read <= without + 1; read++) {
                int likelyWith = river.likelyRead(read, with);
                int likelyWithout = river.likelyRead(read, without);
                if (likelyWithout == 0) {
                    onlyWith += likelyWith;
                } else if (likelyWith == 0) {
                    onlyWithout += likelyWithout;
                } else {
                    together += worthBehind(bar, k, likelyWith, likelyWithout);
                }
            }
            if (onlyWith > 0) {
                together += worthBehind(bar, k, onlyWith, 0);
            }
            if (onlyWithout > 0) {
                together += worthBehind(bar, k, 0, onlyWithout);
            }
            return together;
        }

        private long worthBehind(int bar, int k, int likelyWith, int likelyWithout) {
            for (int set = 0; set < SETS; set++) {
                int likely = ((set >> bar) & 1) == 1 ? likelyWith : likelyWithout;
                weights[k - 1][set] = weights[k][set] * likely;
            }
            return worthOf(k - 1);
        }
    }

    /** A RULE played on a RIVER that is drawn. */
    private static final class Game {
        static final int TOLD = 7;
        static final int MINUTES = 0;
        static final int DONE = 1;
        static final int SOUNDED = 2;
        static final int DAYS = 3;
        static final int TRUE = 4;
        static final int WENT = 5;
        static final int LEFT = 6;
        static final int THROUGH = 0;
        static final int STRUCK = 1;
        static final int STUCK = 2;
        static final int LIES = 3;
        private static final int MOST_STEPS = 100;

        final Thinker thinker;
        final Ground ground;
        final int[] tally = new int[TOLD];
        private final long[] parts = new long[SETS];
        private final int[] turnsLeft = new int[LINES];
        private River river;
        private Rule rule;
        private int from = 0;
        private int to = 0;
        private int day = 0;
        private int off = 0;
        private int seed = 0;

        Game(Thinker thinker, Ground ground, State state) {
            this.thinker = thinker;
            this.ground = ground;
            river = state.river;
            rule = state.rule;
        }

        void begin(State state, int newFrom, int newTo, int newSeed) {
            river = state.river;
            rule = state.rule;
            from = newFrom;
            to = newTo;
            day = state.day;
            off = state.off;
            seed = newSeed;
            copyParts(state.parts, parts);
            Arrays.fill(tally, 0);
            tally[WENT] = NONE;
            tally[TRUE] = drawTruth();
        }

        private int draw(int n) {
            seed = (seed * 3541 + 8713) % 65536;
            return seed / 8 % Math.max(1, n);
        }

        private int drawTruth() {
            int drawn = draw(1000);
            long upTo = 0L;
            int last = river.setCount() - 1;
            for (int set = 0; set < last; set++) {
                upTo += parts[set];
                if (upTo / 1000L > drawn) {
                    return set;
                }
            }
            return last;
        }

        /** Plays what was begun: how it ends. */
        int follow() {
            int line = 0;
            // a STEP counts, and ends come at most nine times for each: this bound is never met
            for (int k = 0; k < 1000000; k++) {
                if (line < 0 || line >= rule.lines) {
                    return LIES;
                }
                int does = rule.does[line];
                if (does == Rule.END) {
                    line = lineBehindEnd(line);
                    continue;
                }
                if (tally[DONE] >= MOST_STEPS) {
                    tally[LEFT] = 1;
                    return LIES;
                }
                tally[DONE]++;
                if (does == Rule.GO) {
                    return goThrough();
                }
                if (does == Rule.STOP) {
                    return LIES;
                }
                line = doStep(line);
            }
            return LIES;
        }

        private int lineBehindEnd(int line) {
            int opening = rule.partners[line];
            if (opening >= 0 && opening < line && rule.does[opening] == Rule.LOOP) {
                turnsLeft[opening]--;
                if (turnsLeft[opening] > 0) {
                    return opening + 1;
                }
            }
            return line + 1;
        }

        /** Does a STEP that does not end all: the line behind it. */
        private int doStep(int line) {
            int bar = rule.bars[line];
            int number = rule.numbers[line];
            switch (rule.does[line]) {
                case Rule.SOUND:
                    takeSounding(bar);
                    break;
                case Rule.COLOUR:
                    takeColour(bar);
                    break;
                case Rule.WAIT:
                    for (int k = 0; k < number; k++) {
                        waitDay();
                    }
                    break;
                case Rule.OFF:
                    putOff(Math.min(number, river.load));
                    break;
                case Rule.LOOP:
                    turnsLeft[line] = number;
                    break;
                default:
                    return isSo(rule.does[line], bar, number) ? line + 1 : rule.partners[line] + 1;
            }
            return line + 1;
        }

        /** The least CELL of a BAR; NONE of one that is not there, or has no CELLS. */
        private int cellOf(int bar) {
            return bar >= 0 && bar < river.bars ? river.least[bar] : NONE;
        }

        private void takeSounding(int bar) {
            int cell = cellOf(bar);
            if (cell == NONE) {
                return;
            }
            tally[MINUTES] += 30;
            tally[SOUNDED]++;
            int read = river.depthAt(river.stageOn(day), cell, tally[TRUE]);
            int drawn = draw(32);
            if (drawn >= 2 * river.pole) {
                read += drawn < 16 + river.pole ? 1 : -1;
            }
            thinker.hearPole(river, parts, day, cell, read);
        }

        private void takeColour(int bar) {
            int cell = cellOf(bar);
            if (cell == NONE) {
                return;
            }
            tally[MINUTES] += 5;
            boolean is = ((tally[TRUE] >> bar) & 1) == 1;
            boolean right = draw(16) < river.water;
            thinker.seeWater(river, parts, cell, is == right);
        }

        private void waitDay() {
            tally[MINUTES] += 1440;
            tally[DAYS]++;
            day++;
            for (int bar = 0; bar < river.bars; bar++) {
                boolean is = ((tally[TRUE] >> bar) & 1) == 1;
                if (draw(16) < (is ? river.goes[bar] : river.comes[bar])) {
                    tally[TRUE] ^= 1 << bar;
                }
            }
            thinker.passDay(river, parts, NONE, 0);
        }

        private void putOff(int most) {
            if (most > off) {
                tally[MINUTES] += 20 * (most - off);
                off = most;
            }
        }

        private boolean isSo(int what, int bar, int number) {
            if (what == Rule.SURE) {
                ground.look(river, day, off);
                return ground.search(from, to) && ground.bestOf(parts) * 16L >= number * WHOLE;
            }
            if (bar < 0 || bar >= river.bars) {
                return false;
            }
            long sixteenths = thinker.partsWith(parts, bar) * 16L;
            return what == Rule.THERE ? sixteenths >= number * WHOLE : sixteenths <= number * WHOLE;
        }

        private int goThrough() {
            ground.look(river, day, off);
            if (!ground.search(from, to)) {
                return STUCK;
            }
            ground.chooseSurest(parts);
            int hit = ground.chosen & tally[TRUE];
            tally[WENT] = ground.chosen;
            tally[MINUTES] += ground.chosenMinutes + river.lost * Integer.bitCount(hit);
            return hit == 0 ? THROUGH : STRUCK;
        }
    }
}
