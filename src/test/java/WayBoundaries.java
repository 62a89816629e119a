import java.util.ArrayList;
import java.util.List;

/**
 * Each sentence of the document on WAYS and on what is worth it that names a boundary case, with a
 * test of its own (Terms 3, promises 27 to 42).
 */
public final class WayBoundaries extends Due {
    private static final int LEAST = Integer.MIN_VALUE;
    private static final int MOST = Integer.MAX_VALUE;
    private static final int[] NO_CELLS = {-1, 6, 60, LEAST, MOST};
    /** CELL 1 is of BAR 0 (a), CELL 4 of BAR 1 (b): by a it is 20 minutes from 0 to 2, by b 30. */
    private static final String FORK = "size 3 2;row 9 5 9;row 9 5 9;"
            + "bar a takes 3 chance 8 goes 4 comes 4;bar b takes 3 chance 4 goes 2 comes 0;"
            + "at a 1 0 to 1 0;at b 1 1 to 1 1;boat draft 4 load 3 straight 10 slant 14 turn 1 lost 100;";
    /** There is no way from 0 to 2, whatever BARS are gone. */
    private static final String CUT = "size 3 2;row 9 3 9;row 9 3 9;bar a takes 3 chance 8 goes 4 comes 4;at a 1 0 to 1 0;";
    private static final String OPEN = "size 3 2;row 9 9 9;row 9 9 9;";

    public static void main(String[] args) {
        terms(3);
        waysOfOneToForty();
        nextToTheOneAhead();
        turnsOfAllHeadings();
        firstCellStruck();
        sureOfAllAndNone();
        soonestOverWhatIsOpen();
        soonestToWhereSheIs();
        firstOfSeveralWays();
        longWays();
        surestOfSeveral();
        meanOfSeveral();
        worthWithoutSurest();
        worthWithoutCells();
        worthOfReadings();
        firstBarThatIsWorthIt();
        lieToOfSeveral();
        lieToWithoutAWay();
        markedOfSeveral();
        markedOfAllBars();
        toldWhenStruck();
        dredgedOfSeveral();
        brushAtMostSixteen();
        leastPutOff();
        promise(27);
        minutesInOrder();
        promise(28);
        struckInOrder();
        promise(29);
        sureInOrder();
        promise(30);
        soonestNumbers();
        promise(31);
        surestNumbers();
        promise(32);
        meanNumbers();
        promise(33);
        lengthOfNone();
        promise(34);
        cellsOfAWay();
        promise(35);
        worthNumbers();
        promise(36);
        nextNumbers();
        promise(37);
        lieToNumbers();
        promise(38);
        markedNumbers();
        promise(39);
        tellsNumbers();
        promise(40);
        dredgedNumbers();
        promise(41);
        brushNumbers();
        promise(42);
        lightenNumbers();
        allTested(27, 42);
        finish();
    }

    // ---- Terms 3: WAYS

    private static void waysOfOneToForty() {
        says("A WAY is a row of CELLS in a TRAY (1 to 40)");
        PoleRiver x = on(FORK);
        long[] to = new long[60];
        for (int k = 0; k < 60; k++) {
            to[k] = k % 2;
        }
        lay(x, 0, 0, to);
        well("one CELL", x, x.minutes(0, 1), 0);
        well("two", x, x.minutes(0, 2), 10);
        well("forty", x, x.minutes(0, 40), 39 * 10 + 38 * 4);
        none("forty-one", x, x.minutes(0, 41), 1);
        none("sixty", x, x.minutes(0, 60), 1);
        none("none", x, x.minutes(0, 0), 1);
        well("forty, struck", x, x.struck(0, 40, 1), 1);
        none("forty-one, struck", x, x.struck(0, 41, 1), 1);
        agreed("forty, sure", x, x.sure(0, 40));
        refused("forty-one, sure", x, x.sure(0, 41), 1);
        none("none, struck", x, x.struck(0, 0, 1), 1);
        refused("none, sure", x, x.sure(0, 0), 1);
    }

    private static void nextToTheOneAhead() {
        says("each next to the one ahead, straight or slant");
        for (int c = 0; c < 12; c++) {
            PoleRiver x = on("size 4 3;boat draft 1 load 0 straight 3 slant 5 turn 1 lost 1;");
            for (int d = 0; d < 12; d++) {
                lay(x, 0, 3, c, d);
                int across = Math.abs(c % 4 - d % 4);
                int down = Math.abs(c / 4 - d / 4);
                if (Math.max(across, down) == 1) {
                    well(c + " to " + d, x, x.minutes(0, 2), across + down == 1 ? 3 : 5);
                } else {
                    none(c + " to " + d, x, x.minutes(0, 2), 5);
                }
            }
        }
    }

    /** Headings from the right round by below; a step is to the middle CELL, one from it. */
    private static void turnsOfAllHeadings() {
        says("for each step but the first TURN times the eighths from the heading ahead to its own (0 to 4)");
        int[] across = {1, 1, 0, -1, -1, -1, 0, 1};
        int[] down = {0, 1, 1, 1, 0, -1, -1, -1};
        PoleRiver x = on("size 3 3;boat draft 1 load 0 straight 10 slant 15 turn 99 lost 1;");
        for (int h = 0; h < 8; h++) {
            for (int g = 0; g < 8; g++) {
                lay(x, 0, 0, 4 - across[h] - 3 * down[h], 4, 4 + across[g] + 3 * down[g]);
                int apart = Math.abs(h - g);
                int eighths = Math.min(apart, 8 - apart);
                int steps = (h % 2 == 0 ? 10 : 15) + (g % 2 == 0 ? 10 : 15);
                well("heading " + h + " to " + g, x, x.minutes(0, 3), steps + 99 * eighths);
            }
        }
    }

    private static void firstCellStruck() {
        says("STRUCK on a set of BARS: the first CELL of it that she does not pass");
        PoleRiver x = on(FORK);
        lay(x, 0, 0, 1, 0, 4, 1, 5);
        well("the first", x, x.struck(0, 5, 1), 0);
        well("the first of two", x, x.struck(0, 5, 3), 0);
        well("the third", x, x.struck(0, 5, 2), 2);
        well("the third, the last of them", x, x.struck(0, 3, 2), 2);
        none("not so far", x, x.struck(0, 2, 2), 6);
        none("none is there", x, x.struck(0, 5, 0), 6);
    }

    private static void sureOfAllAndNone() {
        says("SURE: the CHANCE that none is struck");
        PoleRiver x = on(FORK);
        lay(x, 0, 0, 0, 3);
        agreed("all", x, x.sure(0, 2));
        fraction("all", x, 1, 1);
        lay(x, 0, 0, 0, 1, 4);
        agreed("of both", x, x.sure(0, 3));
        fraction("of both", x, 3, 8);
        agreed("of a", x, x.sure(0, 2));
        fraction("of a", x, 1, 2);
        x = on(CUT);
        lay(x, 0, 0, 0, 4);
        agreed("never", x, x.sure(0, 2));
        fraction("never", x, 0, 1);
    }

    private static void soonestOverWhatIsOpen() {
        says("over CELLS that are OPEN or of BARS in A (both ends, too)");
        PoleRiver x = on(FORK);
        none("neither is gone", x, x.soonest(0, 2, 0), 6);
        well("by a", x, x.soonest(0, 2, 1), 20);
        well("by b", x, x.soonest(0, 2, 2), 30);
        well("by the sooner", x, x.soonest(0, 2, 3), 20);
        none("from a that is there", x, x.soonest(1, 0, 2), 6);
        none("to a that is there", x, x.soonest(0, 1, 2), 6);
        well("from a that is gone", x, x.soonest(1, 0, 1), 10);
        well("to a that is gone", x, x.soonest(0, 1, 1), 10);
        well("from one to another", x, x.soonest(1, 4, 3), 10);
        x = on(CUT);
        none("SHUT is not opened by A", x, x.soonest(0, 2, 1), 6);
        none("nor where she is", x, x.soonest(1, 1, 1), 6);
        // CELLS at the right and the left edge are not next to one another
        x = on("size 3 3;row 0 0 9;row 9 0 0;row 9 0 0;");
        none("not round the edge", x, x.soonest(2, 3, 0), 6);
        x = on("size 3 3;row 9 0 0;row 0 0 9;row 0 0 9;");
        none("nor round the other", x, x.soonest(0, 5, 0), 6);
    }

    private static void soonestToWhereSheIs() {
        says("SOONEST from a CELL to one");
        PoleRiver x = on(FORK);
        well("OPEN", x, x.soonest(5, 5, 0), 0);
        kept("OPEN", x, 5);
        none("of a BAR that is there", x, x.soonest(4, 4, 1), 6);
        well("of one that is gone", x, x.soonest(4, 4, 2), 0);
        kept("of one that is gone", x, 4);
        well("surest", x, x.surest(0, 0), 0);
        fraction("surest", x, 1, 1);
        well("surest where a BAR is", x, x.surest(1, 1), 1);
        fraction("surest where a BAR is", x, 1, 2);
    }

    private static final int[][] COSTS = {{10, 14, 0}, {10, 14, 1}, {10, 10, 0}, {1, 99, 0}, {99, 1, 0}, {1, 1, 99}, {5, 10, 0}};
    private static final String[] BOTTOMS = {"111111111", "111101111", "101111101", "110111011", "011111110", "111010111"};

    /** All ways that come to no CELL twice are tried on nine CELLS. */
    private static void firstOfSeveralWays() {
        says("the fewest MINUTES; of several ways the first by its CELLS, one behind the other (the lesser ahead;");
        for (int[] cost : COSTS) {
            for (String bottom : BOTTOMS) {
                for (int from = 0; from < 9; from++) {
                    allFrom(cost, bottom, from);
                }
            }
        }
    }

    private static void allFrom(int[] cost, String bottom, int from) {
        StringBuilder text = new StringBuilder("size 3 3;");
        for (int k = 0; k < 9; k++) {
            text.append(k % 3 == 0 ? "row" : "").append(bottom.charAt(k) == '1' ? " 4" : " 3").append(k % 3 == 2 ? ";" : "");
        }
        PoleRiver x = on(text + "boat draft 4 load 0 straight " + cost[0] + " slant " + cost[1] + " turn " + cost[2] + " lost 0;");
        for (int to = 0; to < 9; to++) {
            Best best = new Best(cost, bottom, to);
            if (bottom.charAt(from) == '1') {
                best.go(new ArrayList<>(List.of(from)), 0, -1);
            }
            String what = text + " " + from + " to " + to;
            if (best.cells == null) {
                none(what, x, x.soonest(from, to, 0), 6);
            } else {
                well(what, x, x.soonest(from, to, 0), best.minutes);
                kept(what, x, best.cells);
            }
        }
    }

    private static final class Best {
        private static final int[][] ROUND = {{5, 6, 7}, {4, -1, 0}, {3, 2, 1}};
        final int[] cost;
        final String bottom;
        final int to;
        int minutes = 0;
        int[] cells = null;

        Best(int[] cost, String bottom, int to) {
            this.cost = cost;
            this.bottom = bottom;
            this.to = to;
        }

        /** The lesser CELLS are tried first, so of ways as soon the first one stays. */
        void go(List<Integer> way, int sofar, int ahead) {
            int c = way.get(way.size() - 1);
            if (c == to) {
                if (cells == null || sofar < minutes) {
                    minutes = sofar;
                    cells = way.stream().mapToInt(k -> k).toArray();
                }
                return;
            }
            for (int d = 0; d < 9; d++) {
                int x = d % 3 - c % 3;
                int y = d / 3 - c / 3;
                if (bottom.charAt(d) == '1' && !way.contains(d) && Math.abs(x) < 2 && Math.abs(y) < 2) {
                    int heading = ROUND[y + 1][x + 1];
                    int apart = ahead < 0 ? 0 : Math.abs(heading - ahead);
                    way.add(d);
                    go(way, sofar + cost[heading % 2] + cost[2] * Math.min(apart, 8 - apart), heading);
                    way.remove(way.size() - 1);
                }
            }
        }
    }

    private static void longWays() {
        says("SOONEST from a CELL to one with a set A of BARS thought gone");
        String nine = " 9 9 9 9 9 9 9 9 9 9;";
        PoleRiver x = on("size 10 6;row" + nine + "row 0 0 0 0 0 0 0 0 0 9;row" + nine + "row 9 0 0 0 0 0 0 0 0 0;row" + nine);
        well("there and back and there", x, x.soonest(0, 49, 0), 23 * 10 + 4 * 14 + 8);
        kept("there and back and there", x, 0, 1, 2, 3, 4, 5, 6, 7, 8, 19, 28, 27, 26, 25, 24, 23, 22, 21, 30, 41, 42, 43, 44,
                45, 46, 47, 48, 49);
        none("to the last CELL, SHUT", x, x.soonest(0, 59, 0), 6);
        x = on("size 10 6;" + ("row" + nine).repeat(6));
        well("from the first CELL to the last", x, x.soonest(0, 59, 0), 5 * 14 + 4 * 10 + 1);
        kept("from the first CELL to the last", x, 0, 1, 2, 3, 4, 15, 26, 37, 48, 59);
        well("from the last CELL to the first", x, x.soonest(59, 0, 0), 5 * 14 + 4 * 10 + 1);
        kept("from the last CELL to the first", x, 59, 48, 37, 26, 15, 4, 3, 2, 1, 0);
        // a way of more CELLS than a WAY in a TRAY may have: slants cost too much
        x = on("size 10 6;row 9 9 9 9 9 9 9 9 9 9;row 9 0 0 0 0 0 0 0 0 9;row 9 9 9 9 9 9 9 9 0 9;row 0 0 0 0 0 0 0 9 0 9;"
                + "row 9 9 9 9 9 9 9 9 0 9;row 9 0 0 0 0 0 0 0 0 9;boat draft 4 load 0 straight 1 slant 99 turn 0 lost 0;");
        well("round about", x, x.soonest(59, 50, 0), 5 + 9 + 2 + 7 + 2 + 7 + 1);
        well("its CELLS", x, x.length(), 34);
    }

    // ---- Terms 3: SUREST, MEAN

    private static void surestOfSeveral() {
        says("that with the greatest CHANCE; of several the fewest MINUTES, then the least A");
        PoleRiver x = on(FORK);
        well("the greatest, though not the sooner", x, x.surest(0, 2), 2);
        fraction("the greatest", x, 3, 4);
        x = on(FORK.replace("chance 4", "chance 8"));
        well("as great: the sooner", x, x.surest(0, 2), 1);
        well("as great: the sooner from below", x, x.surest(3, 5), 2);
        well("as great, as soon: the least", x, x.surest(0, 5), 1);
        well("as great, as soon, the other way round", x, x.surest(3, 2), 1);
        // what is never there costs no CHANCE
        String round = "size 3 3;row 9 5 9;row 9 0 9;row 9 9 9;bar a takes 3 chance 0 goes 0 comes 0;at a 1 0 to 1 0;";
        x = on(round);
        well("as great with a BAR that is never there: the sooner", x, x.surest(0, 2), 1);
        fraction("as great", x, 1, 1);
        x = on(round.replace("chance 0", "chance 1"));
        well("not as great: round about", x, x.surest(0, 2), 0);
        fraction("certain", x, 1, 1);
        x = on(FORK.replace("chance 8", "chance 0").replace("chance 4", "chance 0"));
        well("all as great: the least of the soonest", x, x.surest(0, 2), 1);
        well("all as great from below", x, x.surest(3, 5), 2);
        x = on(FORK.replace("chance 8", "chance 16").replace("chance 4", "chance 16"));
        well("no CHANCE with any: the least of the soonest", x, x.surest(0, 2), 1);
        fraction("no CHANCE", x, 0, 1);
    }

    private static void meanOfSeveral() {
        says("the least of MINUTES and, for each BAR of A, LOST times how likely it is THERE: a FRACTION; of several the least A");
        PoleRiver x = on(FORK);
        well("30 and 25, or 20 and 50", x, x.mean(0, 2), 2);
        fraction("55", x, 55, 1);
        x = on(FORK.replace("lost 100", "lost 40"));
        well("30 and 10 as 20 and 20: the least", x, x.mean(0, 2), 1);
        fraction("40", x, 40, 1);
        x = on(FORK.replace("lost 100", "lost 41"));
        well("just less", x, x.mean(0, 2), 2);
        fraction("30 and 41 by 4", x, 161, 4);
        x = on(FORK.replace("lost 100", "lost 39"));
        well("just more", x, x.mean(0, 2), 1);
        fraction("20 and 39 by 2", x, 79, 2);
        x = on(FORK.replace("lost 100", "lost 0"));
        well("nothing LOST: the soonest, the least A", x, x.mean(0, 2), 1);
        fraction("20", x, 20, 1);
        x = on(FORK.replace("lost 100", "lost 999").replace("chance 8", "chance 16").replace("chance 4", "chance 16"));
        well("both there: all is LOST", x, x.mean(0, 2), 1);
        fraction("1019", x, 1019, 1);
        well("where she is", x, x.mean(3, 3), 0);
        fraction("nothing", x, 0, 1);
        // two BARS on one way, each LOST by itself
        x = on("size 4 2;row 9 5 5 9;row 0 0 0 0;bar a takes 3 chance 8 goes 0 comes 0;bar b takes 3 chance 8 goes 0 comes 0;"
                + "at a 1 0 to 1 0;at b 2 0 to 2 0;");
        well("both", x, x.mean(0, 3), 3);
        fraction("30 and 60 and 60", x, 150, 1);
    }

    // ---- Terms 3: WORTH

    private static void worthWithoutSurest() {
        says("k 0: the CHANCE of SUREST (0 if there is none)");
        PoleRiver x = on(CUT);
        for (int k = 0; k <= 3; k++) {
            agreed("none, " + k, x, x.worth(0, 2, k));
            fraction("none, " + k, x, 0, 1);
        }
        well("all BARS are as good", x, x.next(0, 2, 3), 0);
        x = on(FORK);
        agreed("SUREST", x, x.worth(0, 2, 0));
        fraction("SUREST", x, 3, 4);
        agreed("certain", x, x.worth(0, 3, 3));
        fraction("certain", x, 1, 1);
    }

    private static void worthWithoutCells() {
        says("BARS without CELLS are passed over");
        PoleRiver x = on(FORK.replace("at a 1 0 to 1 0;", ""));
        agreed("1", x, x.worth(0, 2, 1));
        fraction("the way by CELL 1 is OPEN", x, 1, 1);
        well("b is the first with CELLS", x, x.next(0, 2, 1), 1);
        x = on(FORK.replace("at a 1 0 to 1 0;at b 1 1 to 1 1;", "").replace("9 5 9", "9 3 9"));
        for (int k = 0; k <= 3; k++) {
            agreed("without such BARS " + k, x, x.worth(0, 2, k));
            fraction("as with 0", x, 0, 1);
        }
        none("none is the first", x, x.next(0, 2, 1), 6);
        says("without such BARS as with k 0");
        x = on("size 2 2;row 9 9;row 9 9;bar a takes 9 chance 8 goes 0 comes 0;");
        for (int k = 0; k <= 3; k++) {
            agreed("without such BARS " + k, x, x.worth(0, 3, k));
            fraction("as with 0", x, 1, 1);
        }
    }

    private static void worthOfReadings() {
        says("of all that may be read how likely it is times WORTH of (k less 1) with what is thought then, together, exactly, "
                + "nothing shared out");
        // a takes 2 and the pole is never right: 6 and 4 are read if it is gone, 4 and 2 if it is there
        String never = FORK.replace("takes 3 chance 8", "takes 2 chance 8") + "pole 0;";
        PoleRiver x = on(never);
        agreed("1", x, x.worth(0, 2, 1));
        fraction("b tells all: 3/4 and 1/4 by 1/2", x, 7, 8);
        well("b", x, x.next(0, 2, 1), 1);
        // one way alone: a SOUNDING can't open it
        x = on(FORK.replace("row 9 5 9;bar", "row 9 0 9;bar"));
        for (int k = 0; k <= 3; k++) {
            agreed("one way " + k, x, x.worth(0, 2, k));
            fraction("a half", x, 1, 2);
        }
        // both there: 3906 parts
        x = on(FORK.replace("chance 8", "chance 1").replace("chance 4", "chance 1"));
        agreed("1 of 16 each", x, x.worth(0, 2, 1));
        fraction("all but both", x, 498047, 500000);
        readingsBeyondACall();
    }

    /** What may be read in WORTH is not bound to -9 to 30. */
    private static void readingsBeyondACall() {
        says("of all that may be read");
        PoleRiver x = on("size 3 2;row 20 20 20;row 20 20 20;bar a takes 1 chance 8 goes 0 comes 0;"
                + "bar b takes 1 chance 8 goes 0 comes 0;at a 1 0 to 1 0;at b 0 1 to 2 1;stage 9 less 9;"
                + "boat draft 20 load 0 straight 1 slant 1 turn 1 lost 1;pole 0;");
        agreed("all are OPEN", x, x.worth(0, 2, 2));
        fraction("certain", x, 1, 1);
        x = on("size 3 2;row 5 0 5;row 5 0 5;bar a takes 9 chance 8 goes 0 comes 0;bar b takes 9 chance 8 goes 0 comes 0;"
                + "at a 1 0 to 1 0;at b 1 1 to 1 1;stage 1;boat draft 1 load 0 straight 1 slant 1 turn 1 lost 1;pole 7;");
        agreed("as deep as -8, and less", x, x.worth(0, 2, 1));
        fraction("the one or the other", x, 3, 4);
    }

    private static void firstBarThatIsWorthIt() {
        says("NEXT: the first BAR with which that is so.");
        PoleRiver x = on(FORK);
        for (int k = 1; k <= 3; k++) {
            well("both are as good " + k, x, x.next(0, 2, k), 0);
        }
        String never = FORK.replace("takes 3 chance 8", "takes 2 chance 8") + "pole 0;";
        x = on(never);
        well("the second is better", x, x.next(0, 2, 1), 1);
        well("of two the first is as good", x, x.next(0, 2, 2), 0);
        x = on(OPEN + "bar a takes 1 chance 8 goes 0 comes 0;bar b takes 1 chance 8 goes 0 comes 0;at b 1 1 to 1 1;");
        well("the first with CELLS", x, x.next(0, 2, 3), 1);
    }

    // ---- Terms 3: LIE TO, MARKED, TOLD, DREDGED, BRUSH, OFF

    private static void lieToOfSeveral() {
        says("in parts of 1,000,000, less days times a cost (0 to 999,999): the greatest; of several the soonest");
        PoleRiver x = on(FORK);
        well("a day is worth 31250", x, x.lieTo(0, 2, 1, 31249), 1);
        fraction("25 by 32", x, 25, 32);
        well("as good: the soonest", x, x.lieTo(0, 2, 1, 31250), 0);
        fraction("3 by 4", x, 3, 4);
        well("dearer", x, x.lieTo(0, 2, 1, 31251), 0);
        well("the dearest", x, x.lieTo(0, 2, 9, 999999), 0);
        well("no cost", x, x.lieTo(0, 2, 9, 0), 9);
        x = on(FORK.replace("goes 2 comes 0", "goes 0 comes 0").replace("goes 4 comes 4", "goes 0 comes 0"));
        well("no change, no cost: the soonest", x, x.lieTo(0, 2, 9, 0), 0);
        x = on(FORK.replace("chance 4 goes 2", "chance 16 goes 16").replace("chance 8 goes 4", "chance 16 goes 0"));
        well("a day is worth all", x, x.lieTo(0, 2, 9, 999999), 1);
        fraction("certain", x, 1, 1);
    }

    private static void lieToWithoutAWay() {
        says("of days 0 to n (0 to 9) behind this one the CHANCE of SUREST on that day (days gone by as told, STAGE of that day)");
        PoleRiver x = on("size 2 2;row 3 3;row 3 3;bar a takes 1 chance 8 goes 0 comes 0;at a 1 0 to 1 1;at a 0 1 to 0 1;"
                + "stage 0 0 1 less 1 2;");
        none("none on days 0, 1", x, x.lieTo(0, 3, 1, 0), 6);
        well("day 2, whatever it costs", x, x.lieTo(0, 3, 2, 999999), 2);
        fraction("a half", x, 1, 2);
        well("day 4 is better", x, x.lieTo(0, 3, 4, 249999), 4);
        fraction("certain", x, 1, 1);
        well("day 4 is as good as day 2", x, x.lieTo(0, 3, 4, 250000), 2);
        x.pass(4);
        well("from day 4", x, x.lieTo(0, 3, 0, 0), 0);
        fraction("certain", x, 1, 1);
        x.pass(1);
        none("from day 5 there is none", x, x.lieTo(0, 3, 9, 0), 6);
    }

    private static void markedOfSeveral() {
        says("so many BARS (0 to 5) whose state is known by a mark ahead of the choice: of all sets M of so many BARS that with "
                + "which the CHANCES of the best A of each case, together, are greatest; of several the least M");
        PoleRiver x = on(FORK);
        well("none", x, x.marked(0, 2, 0), 0);
        fraction("none", x, 3, 4);
        well("both are as good", x, x.marked(0, 2, 1), 1);
        fraction("one", x, 7, 8);
        well("both", x, x.marked(0, 2, 2), 3);
        fraction("both", x, 7, 8);
        // b stands in no one's way: c is as good as a, with b or without
        String three = FORK.replace("bar b", "bar c").replace("at b", "at c")
                .replace("bar c", "bar b takes 9 chance 8 goes 0 comes 0;bar c");
        x = on(three);
        well("a or c", x, x.marked(0, 2, 1), 1);
        well("a or c, and one more", x, x.marked(0, 2, 2), 3);
        well("all", x, x.marked(0, 2, 3), 7);
        fraction("all", x, 7, 8);
    }

    private static void markedOfAllBars() {
        says("MARKED: so many BARS (0 to 5)");
        StringBuilder text = new StringBuilder("size 6 2;row 9 9 9 9 9 9;row 9 5 5 5 5 5;");
        for (int k = 0; k < 5; k++) {
            char c = "abcde".charAt(k);
            text.append("bar " + c + " takes 5 chance 8 goes 0 comes 0;at " + c + " " + (k + 1) + " 1 to " + (k + 1) + " 1;");
        }
        PoleRiver x = on(text.toString());
        int[] least = {0, 1, 3, 7, 15, 31};
        for (int many = 0; many <= 5; many++) {
            well("of five " + many, x, x.marked(0, 5, many), least[many]);
            fraction("certain", x, 1, 1);
        }
        well("to the last BAR: it alone", x, x.marked(0, 11, 1), 1);
        fraction("known or not", x, 1, 2);
        none("six", x, x.marked(0, 5, 6), 1);
    }

    private static void toldWhenStruck() {
        says("she goes the same way if not, else by the A with the greatest part of all sets in which the first struck");
        PoleRiver x = on(FORK);
        agreed("fork", x, x.tells(0, 2));
        fraction("3/4, and 1/4 by 1/2", x, 7, 8);
        x = on(FORK.replace("row 9 5 9;bar", "row 9 0 9;bar"));
        agreed("one way", x, x.tells(0, 2));
        fraction("as SUREST", x, 1, 2);
        x = on(FORK.replace("chance 4", "chance 16").replace("chance 8", "chance 16"));
        agreed("both there", x, x.tells(0, 2));
        fraction("never", x, 0, 1);
        x = on(FORK.replace("chance 4", "chance 0"));
        agreed("certain", x, x.tells(0, 2));
        fraction("certain", x, 1, 1);
        agreed("where she is", x, x.tells(1, 1));
        fraction("a half", x, 1, 2);
    }

    private static void dredgedOfSeveral() {
        says("the one without which (its sets' parts come to those without it) the CHANCE of SUREST is greatest; of several the first");
        PoleRiver x = on(FORK);
        well("either", x, x.dredged(0, 2), 0);
        fraction("certain", x, 1, 1);
        well("none is in the way", x, x.dredged(0, 3), 0);
        fraction("certain", x, 1, 1);
        well("b is in the way", x, x.dredged(0, 4), 1);
        fraction("certain", x, 1, 1);
        x = on("size 4 2;row 9 5 5 9;row 0 0 0 0;bar a takes 3 chance 4 goes 0 comes 0;bar b takes 3 chance 8 goes 0 comes 0;"
                + "at a 1 0 to 1 0;at b 2 0 to 2 0;");
        well("the likelier of both", x, x.dredged(0, 3), 1);
        fraction("the other one is left", x, 3, 4);
        x = on("size 4 2;row 9 5 5 9;row 0 0 0 0;bar a takes 3 chance 8 goes 0 comes 0;bar b takes 3 chance 8 goes 0 comes 0;"
                + "at a 1 0 to 1 0;at b 2 0 to 2 0;");
        well("as likely: the first", x, x.dredged(0, 3), 0);
        fraction("a half", x, 1, 2);
    }

    private static void brushAtMostSixteen() {
        says("it GOES with so many sixteenths more (at most 16) for so many days (1 to 9): the CHANCE of SUREST then");
        String one = "size 3 2;row 9 5 9;row 0 0 0;bar a takes 3 chance 16 goes 4 comes 0;at a 1 0 to 1 0;";
        PoleRiver x = on(one);
        int[][] cases = {{0, 1, 4}, {1, 1, 5}, {11, 1, 15}, {12, 1, 16}, {13, 1, 16}, {16, 1, 16}};
        for (int[] c : cases) {
            agreed(c[0] + " more", x, x.brush(0, 2, 0, c[0], c[1]));
            long g = c[2] == 16 ? 16 : c[2] == 4 ? 4 : 1;
            fraction(c[0] + " more", x, c[2] / g, 16 / g);
        }
        agreed("two days: 1 less 9/16", x, x.brush(0, 2, 0, 0, 2));
        fraction("two days", x, 7, 16);
        agreed("nine days", x, x.brush(0, 2, 0, 12, 9));
        fraction("nine days", x, 1, 1);
        agreed("it is as it was", x, x.there(0));
        fraction("it is as it was", x, 1, 1);
        x = on(one.replace("goes 4", "goes 16"));
        agreed("none more than 16", x, x.brush(0, 2, 0, 16, 1));
        fraction("none more than 16", x, 1, 1);
        x = on(one.replace("goes 4", "goes 0"));
        agreed("none more", x, x.brush(0, 2, 0, 0, 9));
        fraction("never", x, 0, 1);
    }

    private static void leastPutOff() {
        says("OFF for n sixteenths (1 to 16): the least that must be put OFF (0 to LOAD) so that the CHANCE of SUREST is at least that");
        PoleRiver x = on(FORK);
        for (int n = 1; n <= 16; n++) {
            well("n " + n, x, x.lighten(0, 2, n), n <= 12 ? 0 : 2);
        }
        x = on(FORK.replace("load 3", "load 2"));
        well("all the LOAD", x, x.lighten(0, 2, 13), 2);
        x = on(FORK.replace("load 3", "load 1"));
        none("not with all the LOAD", x, x.lighten(0, 2, 13), 6);
        well("none of it", x, x.lighten(0, 2, 12), 0);
        x = on(FORK.replace("load 3", "load 0"));
        none("no LOAD", x, x.lighten(0, 2, 13), 6);
        x = on(FORK);
        x.pass(1);
        well("25 by 32 are at least 12 sixteenths", x, x.lighten(0, 2, 12), 0);
        well("and less than 13", x, x.lighten(0, 2, 13), 2);
        x = on("size 3 2;row 9 5 9;row 0 4 0;bar a takes 3 chance 16 goes 0 comes 0;at a 1 0 to 1 0;"
                + "boat draft 6 load 5 straight 1 slant 1 turn 1 lost 1;");
        well("there is no way with less", x, x.lighten(0, 2, 1), 2);
        x = on("size 2 2;bar a takes 1 chance 8 goes 0 comes 0;");
        none("no way at all", x, x.lighten(0, 3, 1), 6);
    }

    // ---- promises 27 to 29

    private static void minutesInOrder() {
        says("MINUTES of a WAY of so many CELLS (1, 2, 3, 5; in this order).");
        PoleRiver x = on(FORK);
        lay(x, 0, 3, 0, 1, 9, 1L << 32, -1L);
        for (int t : new int[] {-1, 4, LEAST, MOST}) {
            none("tray " + t, x, x.minutes(t, 1), 1);
        }
        for (int many : new int[] {0, -1, 41, LEAST, MOST}) {
            none("many " + many, x, x.minutes(0, many), 1);
            none("MISSING, many " + many, x, x.minutes(1, many), 1);
        }
        none("MISSING", x, x.minutes(1, 1), 2);
        none("MISSING, too few", x, x.minutes(1, 40), 2);
        none("too few", x, x.minutes(0, 6), 3);
        none("no CELL", x, x.minutes(0, 3), 5);
        well("those behind are not asked", x, x.minutes(0, 2), 10);
        x.tray(2, 0, 0);
        none("too few of none", x, x.minutes(2, 1), 3);
        for (long number : new long[] {6, 60, -1, 1L << 32, 4294967297L, Long.MAX_VALUE, Long.MIN_VALUE}) {
            lay(x, 2, 3, number, 1);
            none("first " + number, x, x.minutes(2, 1), 5);
            lay(x, 2, 3, 0, number);
            none("second " + number, x, x.minutes(2, 2), 5);
        }
        x = new PoleRiver();
        x.tray(0, 0, 1);
        none("a RIVER of no CELLS", x, x.minutes(0, 1), 5);
    }

    private static void struckInOrder() {
        says("STRUCK: the place in it (from 0) (1, 2, 3, 5; 6: none; in this order).");
        PoleRiver x = on(FORK);
        lay(x, 0, 0, 0, 1, 5, 3);
        for (int set : new int[] {-1, 4, 32, LEAST, MOST}) {
            none("set " + set, x, x.struck(0, 2, set), 1);
            none("MISSING, set " + set, x, x.struck(1, 2, set), 1);
        }
        none("tray 4", x, x.struck(4, 1, 0), 1);
        none("tray -1", x, x.struck(-1, 1, 0), 1);
        none("MISSING, too few", x, x.struck(1, 9, 0), 2);
        none("too few, not next", x, x.struck(0, 5, 0), 3);
        none("not next, though struck ahead", x, x.struck(0, 4, 1), 5);
        well("place 1", x, x.struck(0, 3, 1), 1);
        none("none", x, x.struck(0, 3, 2), 6);
        lay(x, 0, 0, 1, 0);
        well("place 0", x, x.struck(0, 1, 1), 0);
    }

    private static void sureInOrder() {
        says("The FRACTION is SURE (1, 2, 3, 5; in this order).");
        PoleRiver x = on(FORK);
        lay(x, 0, 0, 0, 1, 5, 3);
        refused("tray 4", x, x.sure(4, 1), 1);
        refused("tray -1", x, x.sure(-1, 1), 1);
        refused("MISSING, none", x, x.sure(1, 0), 1);
        refused("MISSING, too many", x, x.sure(1, 41), 1);
        refused("MISSING, too few", x, x.sure(1, 40), 2);
        refused("too few, not next", x, x.sure(0, 5), 3);
        refused("not next", x, x.sure(0, 4), 5);
        fraction("none told", x, 0, 1);
        agreed("three", x, x.sure(0, 3));
        fraction("three", x, 1, 2);
    }

    // ---- promises 30 to 34

    private static void soonestNumbers() {
        says("SOONEST: MINUTES (1; 6: there is none).");
        PoleRiver x = on(FORK);
        for (int cell : NO_CELLS) {
            none("from " + cell, x, x.soonest(cell, 0, 0), 1);
            none("to " + cell, x, x.soonest(0, cell, 0), 1);
        }
        for (int a : new int[] {-1, 4, 32, LEAST, MOST}) {
            none("set " + a, x, x.soonest(0, 2, a), 1);
        }
        none("there is none", x, x.soonest(0, 2, 0), 6);
        well("0 minutes are some", x, x.soonest(0, 0, 0), 0);
        well("all sets", x, x.soonest(0, 2, 3), 20);
    }

    private static void surestNumbers() {
        says("SUREST: the set A; the FRACTION is its CHANCE (1; 6).");
        PoleRiver x = on(CUT);
        for (int cell : NO_CELLS) {
            none("from " + cell, x, x.surest(cell, 0), 1);
            none("to " + cell, x, x.surest(0, cell), 1);
        }
        none("none", x, x.surest(0, 2), 6);
        fraction("none told", x, 0, 1);
        none("none kept", x, x.length(), 6);
        well("the empty set is one", x, x.surest(0, 3), 0);
        fraction("certain", x, 1, 1);
    }

    private static void meanNumbers() {
        says("MEAN: the set A; the FRACTION is its MINUTES in the mean (1; 6).");
        PoleRiver x = on(CUT);
        for (int cell : NO_CELLS) {
            none("from " + cell, x, x.mean(cell, 0), 1);
            none("to " + cell, x, x.mean(0, cell), 1);
        }
        x.chance(0);
        none("none", x, x.mean(0, 2), 6);
        fraction("none told", x, 1, 1);
        none("none kept", x, x.length(), 6);
        well("the empty set is one", x, x.mean(0, 3), 0);
        fraction("ten", x, 10, 1);
    }

    private static void lengthOfNone() {
        says("How many CELLS the way by soonest(), surest(), mean() latest with STATUS 0 has (6: there was none).");
        PoleRiver x = on(FORK);
        none("none yet", x, x.length(), 6);
        x.soonest(0, 2, 0);
        none("with STATUS 6", x, x.length(), 6);
        x.surest(0, 9);
        none("with STATUS 1", x, x.length(), 6);
        x.mean(0, 2);
        kept("mean()", x, 0, 4, 2);
        x.soonest(0, 2, 1);
        kept("soonest()", x, 0, 1, 2);
        x.surest(2, 0);
        kept("surest()", x, 2, 4, 0);
        x.surest(0, 6);
        x.mean(-1, 0);
        x.soonest(0, 2, 0);
        kept("those without STATUS 0", x, 2, 4, 0);
        x.mark();
        x.tells(0, 2);
        x.lieTo(0, 2, 3, 0);
        x.marked(0, 2, 1);
        x.dredged(0, 2);
        x.brush(0, 2, 0, 1, 1);
        x.lighten(0, 2, 13);
        x.worth(0, 2, 2);
        x.next(0, 2, 2);
        x.play(0, 2, 1);
        x.back();
        x.forget();
        kept("those that keep none", x, 2, 4, 0);
        river(x, "size 2 2;");
        kept("another RIVER", x, 2, 4, 0);
    }

    private static void cellsOfAWay() {
        says("Its k-th CELL (6: none such).");
        PoleRiver x = on(FORK);
        none("no way", x, x.way(0), 6);
        x.soonest(0, 2, 1);
        well("the first", x, x.way(0), 0);
        well("the last", x, x.way(2), 2);
        for (int k : new int[] {-1, 3, 59, 60, LEAST, MOST}) {
            none("way " + k, x, x.way(k), 6);
        }
        x.soonest(5, 5, 0);
        well("the only one", x, x.way(0), 5);
        none("what was behind it", x, x.way(1), 6);
    }

    // ---- promises 35 to 42

    private static void worthNumbers() {
        says("The FRACTION is WORTH of k SOUNDINGS (1).");
        PoleRiver x = on(FORK);
        for (int cell : NO_CELLS) {
            refused("from " + cell, x, x.worth(cell, 0, 0), 1);
            refused("to " + cell, x, x.worth(0, cell, 0), 1);
        }
        for (int k : new int[] {-1, 4, LEAST, MOST}) {
            refused("k " + k, x, x.worth(0, 2, k), 1);
        }
        agreed("k 0", x, x.worth(0, 2, 0));
        agreed("k 3", x, x.worth(0, 2, 3));
    }

    private static void nextNumbers() {
        says("NEXT of k SOUNDINGS (1 to 3): the BAR (1; 6: no BAR has a CELL).");
        PoleRiver x = on(FORK);
        for (int cell : NO_CELLS) {
            none("from " + cell, x, x.next(cell, 0, 1), 1);
            none("to " + cell, x, x.next(0, cell, 1), 1);
        }
        for (int k : new int[] {0, -1, 4, LEAST, MOST}) {
            none("k " + k, x, x.next(0, 2, k), 1);
        }
        well("k 1", x, x.next(0, 2, 1), 0);
        well("k 3", x, x.next(0, 2, 3), 0);
        x = on(OPEN);
        none("no BAR", x, x.next(0, 2, 1), 6);
        none("1 is ahead of 6", x, x.next(0, 2, 4), 1);
        x = on(OPEN + "bar a takes 1 chance 8 goes 0 comes 0;");
        none("no CELL", x, x.next(0, 2, 3), 6);
    }

    private static void lieToNumbers() {
        says("(1; 6: SUREST is none on all these days: those without one are passed over; 4: the last day would be above 99).");
        PoleRiver x = on(FORK);
        for (int cell : NO_CELLS) {
            none("from " + cell, x, x.lieTo(cell, 0, 0, 0), 1);
            none("to " + cell, x, x.lieTo(0, cell, 0, 0), 1);
        }
        for (int days : new int[] {-1, 10, LEAST, MOST}) {
            none("days " + days, x, x.lieTo(0, 2, days, 0), 1);
        }
        for (int cost : new int[] {-1, 1000000, LEAST, MOST}) {
            none("cost " + cost, x, x.lieTo(0, 2, 0, cost), 1);
        }
        for (int k = 0; k < 10; k++) {
            x.pass(9);
        }
        due("to day 99", x.lieTo(0, 2, 9, 0) >= 0, true);
        x.pass(1);
        none("to day 100", x, x.lieTo(0, 2, 9, 0), 4);
        none("1 is ahead of 4", x, x.lieTo(0, 2, 9, -1), 1);
        due("to day 99", x.lieTo(0, 2, 8, 0) >= 0, true);
        x.pass(8);
        well("day 99 alone", x, x.lieTo(0, 2, 0, 0), 0);
        none("one behind it", x, x.lieTo(0, 2, 1, 0), 4);
        x = on(CUT);
        none("none on all", x, x.lieTo(0, 2, 9, 0), 6);
        for (int k = 0; k < 11; k++) {
            x.pass(9);
        }
        none("4 is ahead of 6", x, x.lieTo(0, 2, 1, 0), 4);
    }

    private static void markedNumbers() {
        says("(1: more than there are BARS, too; 6).");
        PoleRiver x = on(FORK);
        for (int cell : NO_CELLS) {
            none("from " + cell, x, x.marked(cell, 0, 0), 1);
            none("to " + cell, x, x.marked(0, cell, 0), 1);
        }
        for (int many : new int[] {-1, 3, 6, 32, LEAST, MOST}) {
            none("many " + many, x, x.marked(0, 2, many), 1);
        }
        well("as many as there are", x, x.marked(0, 2, 2), 3);
        x = on(CUT);
        none("none", x, x.marked(0, 2, 0), 6);
        none("none", x, x.marked(0, 2, 1), 6);
        none("1 is ahead of 6", x, x.marked(0, 2, 2), 1);
        x = on(OPEN);
        well("none of none", x, x.marked(0, 2, 0), 0);
        fraction("certain", x, 1, 1);
        none("one of none", x, x.marked(0, 2, 1), 1);
    }

    private static void tellsNumbers() {
        says("The FRACTION is TOLD (1; 6).");
        PoleRiver x = on(CUT);
        for (int cell : NO_CELLS) {
            refused("from " + cell, x, x.tells(cell, 0), 1);
            refused("to " + cell, x, x.tells(0, cell), 1);
        }
        refused("none", x, x.tells(0, 2), 6);
        agreed("one", x, x.tells(0, 3));
        fraction("certain", x, 1, 1);
    }

    private static void dredgedNumbers() {
        says("DREDGED: the BAR; the FRACTION is the CHANCE (1; 6: no BARS, or SUREST is none).");
        PoleRiver x = on(CUT);
        for (int cell : NO_CELLS) {
            none("from " + cell, x, x.dredged(cell, 0), 1);
            none("to " + cell, x, x.dredged(0, cell), 1);
        }
        none("none", x, x.dredged(0, 2), 6);
        well("the only BAR", x, x.dredged(0, 3), 0);
        x = on(OPEN);
        none("no BARS", x, x.dredged(0, 2), 6);
        none("1 is ahead of 6", x, x.dredged(0, 6), 1);
    }

    private static void brushNumbers() {
        says("The FRACTION is the CHANCE by BRUSH, more 0 to 16 (1; 4: the day would be above 99; 6: SUREST is none then).");
        PoleRiver x = on(FORK);
        for (int cell : NO_CELLS) {
            refused("from " + cell, x, x.brush(cell, 0, 0, 0, 1), 1);
            refused("to " + cell, x, x.brush(0, cell, 0, 0, 1), 1);
        }
        for (int bar : new int[] {-1, 2, LEAST, MOST}) {
            refused("bar " + bar, x, x.brush(0, 2, bar, 0, 1), 1);
        }
        for (int more : new int[] {-1, 17, LEAST, MOST}) {
            refused("more " + more, x, x.brush(0, 2, 0, more, 1), 1);
        }
        for (int days : new int[] {0, -1, 10, LEAST, MOST}) {
            refused("days " + days, x, x.brush(0, 2, 0, 0, days), 1);
        }
        for (int k = 0; k < 10; k++) {
            x.pass(9);
        }
        agreed("to day 99", x, x.brush(0, 2, 1, 16, 9));
        x.pass(1);
        refused("to day 100", x, x.brush(0, 2, 1, 16, 9), 4);
        refused("1 is ahead of 4", x, x.brush(0, 2, 1, 17, 9), 1);
        agreed("to day 99", x, x.brush(0, 2, 1, 0, 8));
        x = on(CUT + "stage 9 9 0;");
        agreed("on day 1", x, x.brush(0, 2, 0, 0, 1));
        refused("none then, though there is one now", x, x.brush(0, 2, 0, 16, 2), 6);
        x = on(CUT);
        refused("none", x, x.brush(0, 2, 0, 16, 9), 6);
        for (int k = 0; k < 11; k++) {
            x.pass(9);
        }
        refused("4 is ahead of 6", x, x.brush(0, 2, 0, 16, 1), 4);
    }

    private static void lightenNumbers() {
        says("OFF: so much (1; 6: not with all the LOAD).");
        PoleRiver x = on(FORK);
        for (int cell : NO_CELLS) {
            none("from " + cell, x, x.lighten(cell, 0, 1), 1);
            none("to " + cell, x, x.lighten(0, cell, 1), 1);
        }
        for (int n : new int[] {0, -1, 17, LEAST, MOST}) {
            none("n " + n, x, x.lighten(0, 2, n), 1);
        }
        well("n 1", x, x.lighten(0, 2, 1), 0);
        well("n 16", x, x.lighten(0, 2, 16), 2);
        well("nothing is put OFF by it", x, x.told(4), 0);
        x.off(3);
        well("whatever is OFF", x, x.lighten(0, 2, 16), 2);
        well("and stays so", x, x.told(4), 3);
        x = on(FORK.replace("load 3", "load 1"));
        none("not with all", x, x.lighten(0, 2, 16), 6);
    }
}
