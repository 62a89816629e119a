import java.util.function.IntPredicate;

/**
 * Each sentence of the document on RULES that are PLAYED, on draws, MARKS and FRACTIONS that names a
 * boundary case, with a test of its own (Terms 4, promises 43 to 47).
 */
public final class PilotBoundaries extends Due {
    private static final int LEAST = Integer.MIN_VALUE;
    private static final int MOST = Integer.MAX_VALUE;
    private static final int[] NO_CELLS = {-1, 6, 60, LEAST, MOST};
    /** CELL 1 is of BAR 0 (a), CELL 4 of BAR 1 (b). SUREST from 0 to 2 is by b: 30 minutes, 12 sixteenths. */
    private static final String FORK = "size 3 2;row 9 5 9;row 9 5 9;"
            + "bar a takes 3 chance 8 goes 4 comes 4;bar b takes 3 chance 4 goes 2 comes 0;"
            + "at a 1 0 to 1 0;at b 1 1 to 1 1;boat draft 4 load 3 straight 10 slant 14 turn 1 lost 100;";
    /** One BAR that takes one step of five, as likely there as not, and stays as it is. */
    private static final String STEP = "size 3 2;row 9 5 9;row 0 0 0;bar a takes 1 chance 8 goes 0 comes 0;at a 1 0 to 1 0;"
            + "boat draft 5 load 0 straight 10 slant 14 turn 1 lost 100;";
    private static final String CUT = "size 3 2;row 9 0 9;row 9 0 9;bar a takes 3 chance 8 goes 4 comes 4;";

    public static void main(String[] args) {
        terms(4);
        setThatIsTrue();
        setsByPartsRoundedDown();
        drawsOfASounding();
        drawsByAPoleThatIsAlwaysOrNeverRight();
        readingsThatCannotBe();
        drawsOfAColour();
        barsWithoutCells();
        drawsOfADay();
        barsOneBehindTheOther();
        daysBeyondNinetyNine();
        offAtMostLoad();
        offNoMoreThanIs();
        thereAtLeast();
        goneAtMost();
        sureAtLeast();
        loopsOfOneToNine();
        throughOrStruck();
        stuckWithoutSurest();
        stopAndTheEnd();
        hundredSteps();
        stepsThatCount();
        allIsAsItWasAhead();
        whatThereIsNot();
        drawsWrapAround();
        threeMarks();
        whatAMarkKeeps();
        latestMarkFirst();
        noughtIsNoughtByOne();
        promise(43);
        playNumbers();
        promise(44);
        playedNumbers();
        stepLeft();
        promise(45);
        tallyNumbers();
        tallyOfEachSeed();
        promise(46);
        fourthMark();
        promise(47);
        noMarkLeft();
        allTested(43, 47);
        finish();
    }

    // ---- draws of the test's own

    private static long drawn(long s) {
        return (s * 3541 + 8713) % 65536;
    }

    /** The least seed whose draws by these numbers are as asked. */
    private static int seed(int[] by, IntPredicate... asked) {
        for (int seed = 0; seed < 10000; seed++) {
            long s = seed;
            boolean all = true;
            for (int k = 0; k < by.length && all; k++) {
                s = drawn(s);
                all = asked[k].test((int) (s / 8 % by[k]));
            }
            if (all) {
                return seed;
            }
        }
        due("a seed with such draws", false, true);
        return 0;
    }

    /** Plays from 0 to 2: how it ends, and minutes, STEPS, SOUNDINGS, days, TRUE, A, left. */
    private static void game(String rule, PoleRiver x, int seed, int how, int... due) {
        due("rule " + rule, rule(x, rule) >= 0, true);
        again(rule, x, seed, how, due);
    }

    private static void again(String rule, PoleRiver x, int seed, int how, int... due) {
        well("play " + rule + " " + seed, x, x.play(0, 2, seed), how);
        for (int k = 0; k < due.length; k++) {
            well("played(" + k + ") of " + rule + " " + seed, x, x.played(k), due[k]);
        }
    }

    // ---- Terms 4: what is TRUE

    private static void setThatIsTrue() {
        says("a draw by 1,000 tells it: the first set with which all parts up to it, together, by 1,000, rounded down, are more "
                + "than that (the last, if none is)");
        PoleRiver x = on(FORK);
        int[] draws = {0, 374, 375, 749, 750, 874, 875, 999};
        for (int k = 0; k < draws.length; k++) {
            int asked = draws[k];
            int seed = seed(new int[] {1000}, d -> d == asked);
            game("", x, seed, 3, 0, 0, 0, 0, k / 2, -1, 0);
        }
        for (int chance : new int[] {0, 16}) {
            x = on(STEP.replace("chance 8", "chance " + chance));
            for (int asked : new int[] {0, 500, 999}) {
                game("", x, seed(new int[] {1000}, d -> d == asked), 3, 0, 0, 0, 0, chance / 16, -1, 0);
            }
        }
        x = on("size 3 2;");
        game("", x, seed(new int[] {1000}, d -> d == 999), 3, 0, 0, 0, 0, 0, -1, 0);
    }

    private static void setsByPartsRoundedDown() {
        says("together, by 1,000, rounded down");
        StringBuilder text = new StringBuilder("size 3 2;");
        for (char c = 'a'; c < 'f'; c++) {
            text.append("bar " + c + " takes 1 chance 5 goes 0 comes 0;");
        }
        PoleRiver x = on(text.toString());
        // 153605, then 69813 more, then as many more; the last has 2980
        int[] draws = {152, 153, 222, 223, 292, 293, 996, 997, 999};
        int[] due = {0, 1, 1, 2, 2, 3, 30, 31, 31};
        for (int k = 0; k < draws.length; k++) {
            int asked = draws[k];
            game("", x, seed(new int[] {1000}, d -> d == asked), 3, 0, 0, 0, 0, due[k], -1, 0);
        }
        x = on(STEP.replace("chance 8 goes 0 comes 0", "chance 0 goes 9 comes 9"));
        x.pass(7);
        well("one part is lacking", x, x.part(0), 499999);
        game("", x, seed(new int[] {1000}, d -> d == 498), 3, 0, 0, 0, 0, 0, -1, 0);
        game("", x, seed(new int[] {1000}, d -> d == 499), 3, 0, 0, 0, 0, 1, -1, 0);
    }

    // ---- Terms 4: sound, colour

    /** THERE is 0 (no days are waited), likelier not (2), likelier (6), certain (7), by what is read. */
    private static final String READ = "sound a;when there a 16;wait 1;end;when there a 1;wait 2;end;when there a 9;wait 4;end;";

    private static void drawsOfASounding() {
        says("a draw by 32: less than 2 POLE: the true depth is read; less than 16 and POLE: one more; else one less");
        for (int pole : new int[] {8, 10, 12}) {
            PoleRiver x = on(STEP + "pole " + pole + ";");
            rule(x, READ);
            for (int asked : new int[] {0, 2 * pole - 1, 2 * pole, 15 + pole, 16 + pole, 31}) {
                int more = asked < 2 * pole ? 0 : asked < 16 + pole ? 1 : -1;
                for (int set = 0; set < 2; set++) {
                    int gone = set;
                    int seed = seed(new int[] {1000, 32}, d -> d / 500 == gone, d -> d == asked);
                    int days = set == 0 ? (more == 0 ? 2 : more == 1 ? 0 : 6) : (more == 0 ? 6 : more == 1 ? 2 : 7);
                    well("pole " + pole + " draw " + asked, x, x.play(0, 2, seed), 3);
                    well("minutes", x, x.played(0), 30 + 1440 * days);
                    well("SOUNDINGS", x, x.played(2), 1);
                    well("days by pole " + pole + " draw " + asked, x, x.played(3), days);
                    well("TRUE", x, x.played(4), set);
                }
            }
        }
    }

    private static void drawsByAPoleThatIsAlwaysOrNeverRight() {
        says("less than 2 POLE: the true depth is read");
        for (int pole : new int[] {0, 16}) {
            PoleRiver x = on(STEP + "pole " + pole + ";");
            rule(x, READ);
            for (int asked : new int[] {0, 15, 16, 31}) {
                for (int set = 0; set < 2; set++) {
                    int gone = set;
                    int seed = seed(new int[] {1000, 32}, d -> d / 500 == gone, d -> d == asked);
                    x.play(0, 2, seed);
                    well("all is told by pole " + pole, x, x.played(3), 7 * set);
                }
            }
        }
    }

    /**
     * Eight SOUNDINGS in succession that read one less make THOUGHT certain of a BAR that is not there (waits
     * between them pass over other draws); what only can be read without it can't be then.
     */
    private static void readingsThatCannotBe() {
        says("else one less (where that can't be, THOUGHT stays; so with colour)");
        String rule = "";
        int seed = -1;
        while (rule.isEmpty()) {
            seed++;
            rule = erring(seed);
        }
        PoleRiver x = on(STEP + "colour 16;");
        int steps = rule.split(";").length;
        int waits = (rule.length() - rule.replace("wait", "").length()) / 4;
        int days = 0;
        for (String step : rule.split(";")) {
            days += step.startsWith("wait") ? step.charAt(5) - '0' : 0;
        }
        int minutes = 1440 * days + 30 * (steps - waits);
        game(rule, x, seed, 3, minutes, steps, 9, days, 0, -1, 0);
        game(rule + "when there a 16;stop;end;off 0;", x, seed, 3, minutes, steps + 2, 9, days, 0, -1, 0);
        game(rule + "colour a;when there a 16;stop;end;off 0;", x, seed, 3, minutes + 5, steps + 3, 9, days, 0, -1, 0);
        String ahead = rule.substring(0, rule.lastIndexOf("sound"));
        ahead = ahead.substring(0, ahead.lastIndexOf("sound"));
        // seven are not enough: the when is passed over
        game(ahead + "when there a 16;stop;end;off 0;", x, seed, 3);
        well("not certain with seven", x, x.played(1), ahead.split(";").length + 2);
    }

    /** Eight SOUNDINGS that read one less and one that reads one more; "" if there is no room for them. */
    private static String erring(int seed) {
        long s = drawn(seed);
        if (s / 8 % 1000 >= 500) {
            return "";
        }
        StringBuilder rule = new StringBuilder();
        for (int k = 0; k < 9; k++) {
            int least = k < 8 ? 28 : 24;
            int skipped = 0;
            for (s = drawn(s); s / 8 % 32 < least || s / 8 % 32 > least + 3; s = drawn(s)) {
                skipped++;
            }
            for (; skipped > 0; skipped -= Math.min(9, skipped)) {
                rule.append("wait ").append(Math.min(9, skipped)).append(";");
            }
            rule.append("sound a;");
        }
        return rule.length() < 240 && rule.toString().split(";").length <= 26 ? rule.toString() : "";
    }

    private static void drawsOfAColour() {
        says("a draw by 16: less than COLOUR: it says what is so, else not");
        for (int colour : new int[] {0, 1, 7, 9, 11, 15, 16}) {
            PoleRiver x = on(STEP + "colour " + colour + ";");
            rule(x, "colour a;when there a 9;wait 1;end;");
            for (int asked : new int[] {0, Math.max(0, colour - 1), Math.min(15, colour), 15}) {
                for (int set = 0; set < 2; set++) {
                    int gone = set;
                    int seed = seed(new int[] {1000, 16}, d -> d / 500 == gone, d -> d == asked);
                    boolean says = asked < colour == (set == 1);
                    int days = (says ? colour : 16 - colour) >= 9 ? 1 : 0;
                    well("play", x, x.play(0, 2, seed), 3);
                    well("minutes", x, x.played(0), 5 + 1440 * days);
                    well("days by colour " + colour + " draw " + asked, x, x.played(3), days);
                    well("no SOUNDING", x, x.played(2), 0);
                }
            }
        }
    }

    private static void barsWithoutCells() {
        says("sound: the BAR's least CELL is sounded (30 minutes)");
        PoleRiver x = on(STEP.replace("at a 1 0 to 1 0;", "bar b takes 1 chance 8 goes 0 comes 0;at b 2 0 to 2 0;at b 0 1 to 0 1;"
                + "at b 1 0 to 1 0;") + "pole 16;");
        int set = seed(new int[] {1000}, d -> d < 250);
        game("sound a;colour a;", x, set, 3, 0, 2, 0, 0, 0, -1, 0);
        // the least CELL of b is CELL 1, of 5 steps: without b they are read
        game("sound b;when there b 1;wait 1;end;", x, set, 3, 30, 2, 1, 0, 0, -1, 0);
    }

    // ---- Terms 4: wait

    private static void drawsOfADay() {
        says("for each BAR, one behind the other, a draw by 16 less than what it GOES, COMES with changes what is TRUE");
        for (int n : new int[] {0, 1, 8, 15, 16}) {
            PoleRiver there = on(STEP.replace("chance 8 goes 0", "chance 16 goes " + n));
            PoleRiver gone = on(STEP.replace("chance 8 goes 0 comes 0", "chance 0 goes 0 comes " + n));
            for (int asked : new int[] {0, Math.max(0, n - 1), Math.min(15, n), 15}) {
                int seed = seed(new int[] {1000, 16}, d -> true, d -> d == asked);
                int changed = asked < n ? 1 : 0;
                game("wait 1;", there, seed, 3, 1440, 1, 0, 1, 1 - changed, -1, 0);
                game("wait 1;", gone, seed, 3, 1440, 1, 0, 1, changed, -1, 0);
            }
        }
    }

    private static void barsOneBehindTheOther() {
        says("so many days go by (1,440 minutes each)");
        String text = "size 3 2;bar a takes 1 chance 8 goes 3 comes 5;bar b takes 1 chance 3 goes 9 comes 0;"
                + "bar c takes 1 chance 0 goes 0 comes 16;bar d takes 1 chance 16 goes 16 comes 1;bar e takes 1 chance 1 goes 8 comes 8;";
        int[] goes = {3, 9, 0, 16, 8};
        int[] comes = {5, 0, 16, 1, 8};
        for (int days = 1; days <= 9; days++) {
            PoleRiver x = on(text);
            rule(x, "wait " + days + ";");
            for (int seed = days; seed < 10000; seed += 997) {
                int set = trueOf(x, seed);
                long s = drawn(seed);
                for (int k = 0; k < 5 * days; k++) {
                    s = drawn(s);
                    int bar = k % 5;
                    boolean is = (set >> bar & 1) == 1;
                    set ^= s / 8 % 16 < (is ? goes[bar] : comes[bar]) ? 1 << bar : 0;
                }
                again(days + " days", x, seed, 3, 1440 * days, 1, 0, days, set);
            }
        }
    }

    /** The set that is TRUE at first, by parts as they are told. */
    private static int trueOf(PoleRiver x, int seed) {
        long draw = drawn(seed) / 8 % 1000;
        int upTo = 0;
        for (int set = 0; set < 32; set++) {
            upTo += x.part(set);
            if (upTo / 1000 > draw) {
                return set;
            }
        }
        return 31;
    }

    private static void daysBeyondNinetyNine() {
        says("wait n (1 to 9): so many days go by");
        PoleRiver x = on(STEP.replace("chance 8", "chance 0") + "stage 0 0 less 1;");
        game("wait 1;go;", x, 0, 0, 1460, 2, 0, 1, 0, 1, 0);
        game("wait 2;go;", x, 0, 2, 2880, 2, 0, 2, 0, -1, 0);
        game("wait 3;go;", x, 0, 0, 4340, 2, 0, 3, 0, 1, 0);
        for (int k = 0; k < 11; k++) {
            x.pass(9);
        }
        game("loop 9;wait 9;end;go;", x, 0, 0, 81 * 1440 + 20, 11, 0, 81, 0, 1, 0);
        well("day 99 still", x, x.told(3), 99);
    }

    // ---- Terms 4: off, when, loop

    private static void offAtMostLoad() {
        says("off n (0 to 9): if that (at most LOAD) is more than is OFF, so much is put OFF (20 minutes for each more)");
        PoleRiver x = on(FORK);
        int seed = seed(new int[] {1000}, d -> d < 375);
        int[] minutes = {0, 20, 40, 60, 60, 60, 60, 60, 60, 60};
        for (int n = 0; n <= 9; n++) {
            game("off " + n + ";", x, seed, 3, minutes[n], 1, 0, 0, 0, -1, 0);
        }
        game("off 1;go;", x, seed, 0, 20 + 30, 2, 0, 0, 0, 2, 0);
        game("off 2;go;", x, seed, 0, 40 + 20, 2, 0, 0, 0, 0, 0);
        x = on("size 3 2;");
        game("off 9;", x, 0, 3, 0, 1, 0, 0, 0, -1, 0);
    }

    private static void offNoMoreThanIs() {
        says("is more than is OFF");
        PoleRiver x = on(FORK);
        x.off(2);
        int seed = seed(new int[] {1000}, d -> d < 375);
        game("off 0;go;", x, seed, 0, 20, 2, 0, 0, 0, 0, 0);
        game("off 1;go;", x, seed, 0, 20, 2, 0, 0, 0, 0, 0);
        game("off 2;go;", x, seed, 0, 20, 2, 0, 0, 0, 0, 0);
        game("off 3;off 2;off 1;go;", x, seed, 0, 40, 4, 0, 0, 0, 0, 0);
        well("OFF as it was", x, x.told(4), 2);
    }

    /** STEPS done: the when, and the off within it if that is so. */
    private static void so(PoleRiver x, String what, boolean so) {
        game("when " + what + ";off 0;end;", x, 0, 3, 0, so ? 2 : 1);
    }

    private static void thereAtLeast() {
        says("the STEPS up to its end are done, if the BAR is THERE with at least n sixteenths");
        PoleRiver x = on(FORK);
        for (int n = 0; n <= 16; n++) {
            so(x, "there a " + n, n <= 8);
        }
        so(x, "there b 4", true);
        so(x, "there b 5", false);
        x.pass(1);
        // 7 by 32
        so(x, "there b 3", true);
        so(x, "there b 4", false);
        x = on(STEP.replace("chance 8", "chance 16"));
        so(x, "there a 16", true);
        x = on(STEP.replace("chance 8", "chance 0"));
        so(x, "there a 0", true);
        so(x, "there a 1", false);
    }

    private static void goneAtMost() {
        says("(gone n): the STEPS up to its end are done, if the BAR is THERE with at least n sixteenths (at most n)");
        PoleRiver x = on(FORK);
        for (int n = 0; n <= 16; n++) {
            so(x, "gone a " + n, n >= 8);
        }
        so(x, "gone b 4", true);
        so(x, "gone b 3", false);
        x.pass(1);
        so(x, "gone b 4", true);
        so(x, "gone b 3", false);
        x = on(STEP.replace("chance 8", "chance 16"));
        so(x, "gone a 15", false);
        so(x, "gone a 16", true);
        x = on(STEP.replace("chance 8", "chance 0"));
        so(x, "gone a 0", true);
    }

    private static void sureAtLeast() {
        says("sure n (0 to 16): if there is a SUREST, and its CHANCE is at least n sixteenths");
        PoleRiver x = on(FORK);
        for (int n = 0; n <= 16; n++) {
            so(x, "sure " + n, n <= 12);
        }
        x.off(2);
        so(x, "sure 16", true);
        x = on(CUT);
        so(x, "sure 0", false);
        so(x, "sure 16", false);
        x = on(STEP.replace("chance 8", "chance 16"));
        so(x, "sure 0", true);
        so(x, "sure 1", false);
        x = on(STEP.replace("chance 8 goes 0", "chance 16 goes 15"));
        x.pass(1);
        so(x, "sure 15", true);
        so(x, "sure 16", false);
    }

    private static void loopsOfOneToNine() {
        says("loop n (1 to 9): so many times");
        PoleRiver x = on(FORK);
        for (int n = 1; n <= 9; n++) {
            game("loop " + n + ";off 0;off 0;end;", x, 0, 3, 0, 1 + 2 * n, 0, 0);
            game("loop " + n + ";end;", x, 0, 3, 0, 1);
        }
        game("loop 2;loop 3;loop 4;off 0;end;end;end;", x, 0, 3, 0, 1 + 2 + 6 + 24);
        game("loop 3;wait 1;end;", x, 0, 3, 3 * 1440, 4, 0, 3);
        game("loop 9;stop;end;", x, 0, 3, 0, 2);
        game("loop 9;when there a 16;stop;end;end;", x, 0, 3, 0, 10);
        // what a loop in a loop has left is its own each time
        game("loop 2;loop 2;wait 1;end;loop 3;wait 1;end;end;", x, 0, 3, 10 * 1440, 1 + 4 + 10, 0, 10);
    }

    // ---- Terms 4: go, stop, the end

    private static void throughOrStruck() {
        says("go: she goes by SUREST: MINUTES, and LOST for each BAR of A that is TRUE; all is over: she is THROUGH, or has STRUCK");
        PoleRiver x = on(FORK);
        for (int set = 0; set < 4; set++) {
            int least = new int[] {0, 375, 750, 875}[set];
            int seed = seed(new int[] {1000}, d -> d == least);
            boolean struck = (set & 2) != 0;
            game("go;go;", x, seed, struck ? 1 : 0, struck ? 130 : 30, 1, 0, 0, set, 2, 0);
        }
        x = on("size 4 2;row 9 5 5 9;row 0 0 0 0;bar a takes 3 chance 16 goes 0 comes 0;bar b takes 3 chance 16 goes 0 comes 0;"
                + "at a 1 0 to 1 0;at b 2 0 to 2 0;");
        rule(x, "go;");
        well("struck on both", x, x.play(0, 3, 0), 1);
        well("LOST twice", x, x.played(0), 30 + 240);
        well("where she is", x, x.play(0, 0, 0), 0);
        well("no minutes", x, x.played(0), 0);
        well("by the empty set", x, x.played(5), 0);
        x = on(FORK.replace("lost 100", "lost 0").replace("chance 4", "chance 16").replace("chance 8", "chance 16"));
        game("go;", x, 0, 1, 20, 1, 0, 0, 3, 1, 0);
    }

    private static void stuckWithoutSurest() {
        says("(0 minutes and STUCK, if there is none)");
        PoleRiver x = on(CUT);
        int seed = seed(new int[] {1000}, d -> d < 500);
        game("go;", x, seed, 2, 0, 1, 0, 0, 0, -1, 0);
        game("go;stop;wait 9;", x, seed, 2, 0, 1, 0, 0, 0, -1, 0);
        x = on(STEP + "stage 0 less 9;");
        game("wait 1;go;", x, seed, 2, 1440, 2, 0, 1, 0, -1, 0);
    }

    private static void stopAndTheEnd() {
        says("stop: all is over; at the end, too: she LIES");
        PoleRiver x = on(FORK);
        int seed = seed(new int[] {1000}, d -> d < 375);
        game("stop;", x, seed, 3, 0, 1, 0, 0, 0, -1, 0);
        game("stop;go;", x, seed, 3, 0, 1, 0, 0, 0, -1, 0);
        game("when there a 0;stop;end;go;", x, seed, 3, 0, 2, 0, 0, 0, -1, 0);
        game("when there a 16;stop;end;", x, seed, 3, 0, 1, 0, 0, 0, -1, 0);
        game("", x, seed, 3, 0, 0, 0, 0, 0, -1, 0);
    }

    private static void hundredSteps() {
        says("At most 100 STEPS");
        PoleRiver x = on(FORK);
        int seed = seed(new int[] {1000}, d -> d < 375);
        // 1 and 9 and 81: 91
        String most = "loop 9;loop 9;off 0;end;end;";
        game(most + "off 0;".repeat(8) + "go;", x, seed, 0, 30, 100, 0, 0, 0, 2, 0);
        game(most + "off 0;".repeat(9), x, seed, 3, 0, 100, 0, 0, 0, -1, 0);
        game(most + "off 0;".repeat(9) + "go;", x, seed, 3, 0, 100, 0, 0, 0, -1, 1);
        game(most + "off 0;".repeat(9) + "stop;", x, seed, 3, 0, 100, 0, 0, 0, -1, 1);
        game(most + "off 0;".repeat(8) + "stop;go;", x, seed, 3, 0, 100, 0, 0, 0, -1, 0);
        game("loop 9;loop 9;loop 9;off 1;end;end;end;", x, seed, 3, 20, 100, 0, 0, 0, -1, 1);
        game("loop 9;loop 9;loop 9;end;end;end;", x, seed, 3, 0, 91, 0, 0, 0, -1, 0);
    }

    private static void stepsThatCount() {
        says("(loop, when count as one each time they are come to; end does not)");
        PoleRiver x = on(FORK);
        game("when there a 16;off 0;off 0;end;off 0;", x, 0, 3, 0, 2);
        game("when there a 8;off 0;off 0;end;off 0;", x, 0, 3, 0, 4);
        game("loop 5;when there a 16;off 0;end;end;", x, 0, 3, 0, 6);
        game("loop 5;loop 1;end;end;", x, 0, 3, 0, 6);
        game("loop 5;loop 5;loop 1;end;end;end;", x, 0, 3, 0, 1 + 5 + 25);
        // an end at which 100 are done is no STEP that is left
        game("loop 9;loop 9;off 0;end;end;loop 8;off 0;end;", x, 0, 3, 0, 100, 0, 0, played4(x), -1, 0);
        game("loop 9;loop 9;off 0;end;end;loop 8;off 0;end;when there a 0;end;", x, 0, 3, 0, 100, 0, 0, played4(x), -1, 1);
    }

    private static int played4(PoleRiver x) {
        x.play(0, 2, 0);
        return x.played(4);
    }

    private static void allIsAsItWasAhead() {
        says("Behind it all is as it was ahead (day, THOUGHT, OFF, TRUE), but for what played() tells.");
        PoleRiver x = on(FORK);
        x.pass(1);
        x.off(1);
        x.soonest(0, 2, 1);
        x.there(1);
        int[] parts = new int[4];
        for (int set = 0; set < 4; set++) {
            parts[set] = x.part(set);
        }
        x.there(1);
        rule(x, "sound a;colour b;wait 9;off 3;go;");
        for (int seed = 0; seed < 20; seed++) {
            x.play(0, 2, seed);
            x.tally(0, 2, seed, 3, 0);
        }
        fraction("FRACTION", x, 7, 32);
        well("day", x, x.told(3), 1);
        well("OFF", x, x.told(4), 1);
        for (int set = 0; set < 4; set++) {
            well("THOUGHT " + set, x, x.part(set), parts[set]);
        }
        kept("way", x, 0, 1, 2);
        well("TRUE is drawn anew", x, x.play(0, 2, 5), x.play(0, 2, 5));
    }

    private static void whatThereIsNot() {
        says("they are numbers then, and what there is not does nothing, and is not so");
        PoleRiver x = on(FORK);
        rule(x, "sound b;colour b;when there b 0;stop;end;when gone b 16;stop;end;go;");
        river(x, STEP);
        int seed = seed(new int[] {1000}, d -> d < 500);
        again("another RIVER", x, seed, 0, 20, 5, 0, 0, 0, 1, 0);
        river(x, "size 3 2;row 9 9 9;");
        again("no BARS", x, seed, 0, 20, 5, 0, 0, 0, 0, 0);
        river(x, STEP + "bar z takes 1 chance 16 goes 0 comes 0;at z 2 1 to 2 1;");
        well("BAR 1 is z now", x, x.play(0, 2, seed), 3);
        well("sounded", x, x.played(2), 1);
    }

    // ---- Terms 4: draws, MARKS, FRACTIONS

    private static void drawsWrapAround() {
        says("s, at first the seed, becomes what is left of s times 3,541 and 8,713 by 65,536; the draw by n is the rest of s by 8, "
                + "rounded down, by n");
        String text = STEP.replace("goes 0 comes 0", "goes 8 comes 8");
        for (int seed : new int[] {0, 1, 15, 16, 17, 18, 9997, 9998, 9999}) {
            PoleRiver x = on(text);
            for (int days = 1; days <= 9; days++) {
                long s = drawn(seed);
                int set = s / 8 % 1000 < 500 ? 0 : 1;
                for (int k = 0; k < 9 * days; k++) {
                    s = drawn(s);
                    set ^= s / 8 % 16 < 8 ? 1 : 0;
                }
                game("loop " + days + ";wait 9;end;", x, seed, 3, 1440 * 9 * days, 1 + days, 0, 9 * days, set, -1, 0);
            }
        }
    }

    private static void threeMarks() {
        says("MARKS, at most 3");
        PoleRiver x = on(FORK);
        for (int k = 1; k <= 3; k++) {
            well("MARK " + k, x, x.mark(), k);
        }
        none("a fourth", x, x.mark(), 4);
        well("one less", x, x.back(), 2);
        well("one more again", x, x.mark(), 3);
        none("and a fourth", x, x.mark(), 4);
    }

    private static void whatAMarkKeeps() {
        says("the RIVER, day, THOUGHT, OFF, RULE are kept as they are");
        PoleRiver x = on("size 4 3;row 9 8 7 6;row 1 2 3 4;bar aa takes 9 chance 3 goes 2 comes 1;bar b takes 8 chance 4 goes 5 comes 6;"
                + "at aa 1 1 to 3 1;at b 0 2 to 0 2;stage 9 less 8 7;boat draft 8 load 7 straight 9 slant 13 turn 2 lost 77;"
                + "pole 5;colour 6;");
        rule(x, "wait 1;loop 2;off 1;end;when there b 0;wait 2;end;when there b 16;wait 9;end;");
        x.pass(2);
        x.off(3);
        String ahead = state(x);
        well("mark", x, x.mark(), 1);
        due("as it is", ahead.equals(state(x)), true);
        x.pass(3);
        x.off(5);
        due("not as it was", ahead.equals(state(x)), false);
        well("back", x, x.back(), 0);
        due("as it was", state(x).equals(ahead) ? "" : state(x) + " for " + ahead);
        well("mark", x, x.mark(), 1);
        river(x, "size 3 2;row 5 5 5;bar a takes 1 chance 16 goes 0 comes 0;at a 0 0 to 2 1;stage 1 2 3 4;"
                + "boat draft 1 load 0 straight 1 slant 1 turn 1 lost 1;pole 1;colour 1;");
        rule(x, "sound a;stop;");
        well("back", x, x.back(), 0);
        due("as it was with another RIVER and RULE", state(x).equals(ahead) ? "" : state(x) + " for " + ahead);
        well("its names", x, rule(x, "sound aa;colour b;"), 2);
        keptBars();
    }

    /** Of two RULES alike but for their BARS: a has no CELL, so it is not sounded. */
    private static void keptBars() {
        PoleRiver x = on(FORK.replace("at a 1 0 to 1 0;", ""));
        rule(x, "sound b;");
        x.mark();
        rule(x, "sound a;");
        game("sound a;", x, 0, 3, 0, 1, 0);
        well("back", x, x.back(), 0);
        again("sound b;", x, 0, 3, 30, 1, 1);
    }

    private static void due(String what, String unlike) {
        due(what + " " + unlike, unlike.isEmpty(), true);
    }

    /** What a MARK keeps, as far as calls tell it. */
    private static String state(PoleRiver x) {
        StringBuilder all = new StringBuilder();
        for (int k = 0; k < 13; k++) {
            all.append(x.told(k)).append(' ');
        }
        for (int k = 0; k < 12; k++) {
            all.append(x.bar(k / 6, k % 6)).append(' ').append(x.stage(k)).append(' ');
            all.append(x.depth(k, 0)).append(' ').append(x.barOf(k)).append(' ').append(x.part(k)).append(' ');
        }
        x.play(0, 0, 7);
        for (int k = 0; k < 7; k++) {
            all.append(x.played(k)).append(' ');
        }
        return all.toString();
    }

    private static void latestMarkFirst() {
        says("all is taken back to the latest MARK, which is gone then");
        PoleRiver x = on(FORK);
        x.mark();
        x.pass(1);
        x.mark();
        x.pass(1);
        x.mark();
        x.pass(1);
        well("to the third", x, x.back(), 2);
        well("day 2", x, x.told(3), 2);
        well("to the second", x, x.back(), 1);
        well("day 1", x, x.told(3), 1);
        x.pass(5);
        well("another second", x, x.mark(), 2);
        x.pass(1);
        well("to that", x, x.back(), 1);
        well("day 6", x, x.told(3), 6);
        well("to the first", x, x.back(), 0);
        well("day 0", x, x.told(3), 0);
    }

    private static void noughtIsNoughtByOne() {
        says("FRACTIONS are told by top() and bottom() without a common divisor, the bottom above 0; 0 is 0 by 1.");
        PoleRiver x = on(STEP.replace("chance 8", "chance 16"));
        agreed("CHANCE", x, x.chance(1));
        fraction("0", x, 0, 1);
        well("SUREST", x, x.surest(0, 2), 1);
        fraction("0", x, 0, 1);
        agreed("1", x, x.chance(0));
        fraction("1", x, 1, 1);
        agreed("WORTH", x, x.worth(0, 2, 3));
        fraction("0", x, 0, 1);
        x = on(FORK);
        agreed("3 by 8", x, x.chance(3));
        fraction("375000 by 1000000", x, 3, 8);
        well("MEAN", x, x.mean(0, 3), 0);
        fraction("10 by 1", x, 10, 1);
    }

    // ---- promises 43 to 45

    private static void playNumbers() {
        says("PLAYED: 0 THROUGH, 1 STRUCK, 2 STUCK, 3 LIES (1).");
        PoleRiver x = on(FORK);
        for (int cell : NO_CELLS) {
            none("from " + cell, x, x.play(cell, 0, 0), 1);
            none("to " + cell, x, x.play(0, cell, 0), 1);
        }
        for (int seed : new int[] {-1, 10000, LEAST, MOST}) {
            none("seed " + seed, x, x.play(0, 2, seed), 1);
        }
        none("none is played by that", x, x.played(0), 6);
        well("seed 0", x, x.play(0, 2, 0), 3);
        well("seed 9999", x, x.play(0, 2, 9999), 3);
        well("it is played", x, x.played(0), 0);
    }

    private static void playedNumbers() {
        says("Of play() latest with STATUS 0");
        PoleRiver x = on(FORK);
        for (int what : new int[] {-1, 7, LEAST, MOST}) {
            none("1 is ahead of 6: " + what, x, x.played(what), 1);
        }
        for (int what = 0; what < 7; what++) {
            none("none yet " + what, x, x.played(what), 6);
        }
        rule(x, "off 2;off 3;");
        x.tally(0, 2, 0, 5, 3);
        none("tally() is none", x, x.played(0), 6);
        x.play(0, 2, 0);
        well("minutes", x, x.played(0), 60);
        rule(x, "wait 1;");
        x.play(0, 2, 10000);
        x.play(0, 6, 0);
        x.tally(0, 2, 0, 5, 3);
        well("those without STATUS 0, and tally()", x, x.played(0), 60);
        river(x, "size 2 2;");
        x.forget();
        well("kept over another RIVER", x, x.played(1), 2);
        for (int what : new int[] {-1, 7}) {
            none("what " + what, x, x.played(what), 1);
        }
        well("A: NONE, she did not go", x, x.played(5), -1);
    }

    private static void stepLeft() {
        says("6: 1 if a STEP was left to be done, else 0 (1; 6: there was none).");
        PoleRiver x = on(FORK);
        int seed = seed(new int[] {1000}, d -> d < 375);
        game("loop 9;loop 9;off 0;end;end;loop 9;off 0;end;", x, seed, 3, 0, 100, 0, 0, 0, -1, 1);
        game("loop 9;loop 9;off 0;end;end;loop 8;off 0;end;", x, seed, 3, 0, 100, 0, 0, 0, -1, 0);
        game("go;", x, seed, 0, 30, 1, 0, 0, 0, 2, 0);
        game("stop;", x, seed, 3, 0, 1, 0, 0, 0, -1, 0);
    }

    private static void tallyNumbers() {
        says("How many of so many seeds (1 to 30) from one on end so, how 0 to 3 (1: the last above 9,999, too).");
        PoleRiver x = on(FORK);
        for (int cell : NO_CELLS) {
            none("from " + cell, x, x.tally(cell, 0, 0, 1, 0), 1);
            none("to " + cell, x, x.tally(0, cell, 0, 1, 0), 1);
        }
        for (int seed : new int[] {-1, 10000, LEAST, MOST}) {
            none("seed " + seed, x, x.tally(0, 2, seed, 1, 3), 1);
        }
        for (int many : new int[] {0, -1, 31, LEAST, MOST}) {
            none("many " + many, x, x.tally(0, 2, 0, many, 3), 1);
        }
        for (int how : new int[] {-1, 4, LEAST, MOST}) {
            none("how " + how, x, x.tally(0, 2, 0, 1, how), 1);
        }
        well("thirty", x, x.tally(0, 2, 0, 30, 3), 30);
        well("one", x, x.tally(0, 2, 9999, 1, 3), 1);
        none("the last is 10000", x, x.tally(0, 2, 9999, 2, 3), 1);
        well("the last is 9999", x, x.tally(0, 2, 9970, 30, 3), 30);
        none("the last is 10000", x, x.tally(0, 2, 9971, 30, 3), 1);
        none("the last wraps around", x, x.tally(0, 2, MOST, 30, 3), 1);
    }

    private static void tallyOfEachSeed() {
        says("How many of so many seeds");
        PoleRiver x = on(FORK);
        rule(x, "when gone b 4;go;end;");
        int[] due = new int[4];
        for (int seed = 9970; seed <= 9999; seed++) {
            due[x.play(0, 2, seed)]++;
        }
        due("some are THROUGH, some have STRUCK", due[0] > 0 && due[1] > 0, true);
        for (int how = 0; how < 4; how++) {
            well("of thirty " + how, x, x.tally(0, 2, 9970, 30, how), due[how]);
        }
        x = on(CUT);
        rule(x, "go;");
        well("all STUCK", x, x.tally(0, 2, 0, 30, 2), 30);
        well("none THROUGH", x, x.tally(0, 2, 0, 30, 0), 0);
    }

    // ---- promises 46, 47

    private static void fourthMark() {
        says("A MARK more: how many there are (4).");
        PoleRiver x = new PoleRiver();
        for (int k = 1; k <= 3; k++) {
            well("MARK " + k, x, x.mark(), k);
        }
        river(x, FORK);
        none("a fourth", x, x.mark(), 4);
        well("the third is as it was", x, x.back(), 2);
        well("a RIVER of no CELLS", x, x.told(0), 0);
    }

    private static void noMarkLeft() {
        says("All is taken back to the latest MARK: how many there are left (6).");
        PoleRiver x = on(FORK);
        none("none yet", x, x.back(), 6);
        x.pass(1);
        none("none yet", x, x.back(), 6);
        well("nothing is taken back", x, x.told(3), 1);
        x.mark();
        well("one", x, x.back(), 0);
        none("none left", x, x.back(), 6);
        well("day 1 still", x, x.told(3), 1);
    }
}
