/**
 * Each sentence of the document on a new object, THOUGHT, SOUNDINGS, COLOUR and DEPTH that names a
 * boundary case, with a test of its own (Terms 2, promises 1 to 4 and 13 to 26).
 */
public final class ThoughtBoundaries extends Due {
    private static final int LEAST = Integer.MIN_VALUE;
    private static final int MOST = Integer.MAX_VALUE;
    /** CELL 1 is of BAR 0 (a), CELL 4 of BAR 1 (b); half a, a quarter b. */
    private static final String TWO = "size 3 2;row 9 5 9;row 9 5 9;"
            + "bar a takes 3 chance 8 goes 4 comes 4;bar b takes 3 chance 4 goes 2 comes 0;"
            + "at a 1 0 to 1 0;at b 1 1 to 1 1;boat draft 4 load 3 straight 10 slant 14 turn 1 lost 100;";
    private static final String FIVE = fiveBars(5);

    public static void main(String[] args) {
        terms(2);
        aPartForEachSet();
        chancesOfNoneAndAll();
        whatLacksComesToTheGreatest();
        whatLacksOfSeveral();
        daysWithoutAndWithAllSixteenths();
        daysShareOut();
        thereOfNoneAndAll();
        readingsOfACall();
        readingsBesideTheDepth();
        readingsByTheDepthOfTheDay();
        readingsThatCannotBe();
        readingsThatTellOneFromAnother();
        coloursOfNoBar();
        coloursThatCannotBe();
        depthsWithASet();
        passesAtLeastDraft();
        openAndShut();
        document("its use");
        fiveHundredAndTwelveCalls();
        noneIsOneBelowNought();
        promise(1);
        newObject();
        promise(2);
        statusOfTheLatest();
        promise(3);
        topOfTheLatest();
        promise(4);
        bottomAboveNought();
        promise(13);
        toldNumbers();
        promise(14);
        barNumbers();
        promise(15);
        barsOfCells();
        promise(16);
        stagesOfDays();
        promise(17);
        depthsBelowNought();
        promise(18);
        openCells();
        promise(19);
        partsOfSets();
        promise(20);
        thereNumbers();
        promise(21);
        chanceNumbers();
        promise(22);
        passNumbers();
        passToDayNinetyNine();
        promise(23);
        soundNumbers();
        promise(24);
        colourNumbers();
        promise(25);
        offNumbers();
        promise(26);
        forgetThought();
        allTested(1, 4);
        allTested(13, 26);
        finish();
    }

    private static String fiveBars(int chance) {
        StringBuilder text = new StringBuilder("size 5 2;row 9 9 9 9 9;row 5 5 5 5 5;");
        for (int k = 0; k < 5; k++) {
            text.append("bar ").append("abcde".charAt(k)).append(" takes ").append(k + 1).append(" chance ").append(chance)
                    .append(" goes 0 comes 0;at ").append("abcde".charAt(k)).append(" " + k + " 1 to " + k + " 1;");
        }
        return text.toString();
    }

    private static void parts(String what, PoleRiver x, int... due) {
        for (int set = 0; set < due.length; set++) {
            well(what + " part " + set, x, x.part(set), due[set]);
        }
        none(what + " no more sets", x, x.part(due.length), 1);
    }

    // ---- Terms 2: THOUGHT

    private static void aPartForEachSet() {
        says("THOUGHT are parts of 1,000,000 for each set of BARS that may be there (a set: 1 for BAR 0, 2 for BAR 1 ..)");
        parts("no BARS", on("size 3 2;"), 1000000);
        for (int k = 0; k < 5; k++) {
            String letter = String.valueOf("abcde".charAt(k));
            PoleRiver x = on(fiveBars(0).replace("bar " + letter + " takes " + (k + 1) + " chance 0",
                    "bar " + letter + " takes " + (k + 1) + " chance 16"));
            int[] due = new int[32];
            due[1 << k] = 1000000;
            parts("BAR " + k + " alone", x, due);
        }
        int[] all = new int[32];
        all[31] = 1000000;
        parts("all five", on(fiveBars(16)), all);
    }

    private static void chancesOfNoneAndAll() {
        says("at first the CHANCES of all that are in it and of all that are not, times one another, times 1,000,000");
        parts("never, half", on(TWO.replace("chance 8", "chance 0").replace("chance 4", "chance 8")), 500000, 0, 500000, 0);
        parts("always, half", on(TWO.replace("chance 8", "chance 16").replace("chance 4", "chance 8")), 0, 500000, 0, 500000);
        parts("always, never", on(TWO.replace("chance 8", "chance 16").replace("chance 4", "chance 0")), 0, 1000000, 0, 0);
        parts("half, a quarter", on(TWO), 375000, 375000, 125000, 125000);
        parts("1 of 16, 15 of 16", on(TWO.replace("chance 8", "chance 1").replace("chance 4", "chance 15")),
                58593, 3906, 878906 + 2, 58593);
    }

    private static void whatLacksComesToTheGreatest() {
        says("each is rounded down, what lacks to 1,000,000 comes to that which was the greatest ahead of rounding");
        // 161051, 73205, 33275, 15125, 6875, 3125 by 1048576
        PoleRiver x = on(FIVE);
        well("all there", x, x.part(31), 2980);
        well("four there", x, x.part(30), 6556);
        well("three there", x, x.part(7), 14424);
        well("two there", x, x.part(3), 31733);
        well("one there", x, x.part(16), 69813);
        well("none there, and what lacks", x, x.part(0), 1000000 - 5 * 69813 - 10 * 31733 - 10 * 14424 - 5 * 6556 - 2980);
        int sum = 0;
        for (int set = 0; set < 32; set++) {
            sum += x.part(set);
        }
        due("together", sum, 1000000);
        // the greatest is not the first one: 11 of 16 each
        x = on(fiveBars(11));
        well("none there", x, x.part(0), 2980);
        well("all there, and what lacks", x, x.part(31), 1000000 - 5 * 69813 - 10 * 31733 - 10 * 14424 - 5 * 6556 - 2980);
        // behind six days 305555, 305555, .., but 78222182 and 78222298 of 256 ahead of rounding
        x = on("size 2 2;bar a takes 1 chance 14 goes 7 comes 7;bar b takes 1 chance 15 goes 11 comes 7;");
        x.pass(7);
        parts("as great when rounded", x, 305555, 305557, 194444, 194444);
    }

    private static void whatLacksOfSeveral() {
        says("(of several the least set)");
        // by 24, 24, 4, 4 of 56
        PoleRiver x = on("size 2 2;row 5 5;bar a takes 1 chance 8 goes 0 comes 0;bar b takes 1 chance 8 goes 0 comes 0;at b 0 0 to 0 0;");
        x.sound(0, 5);
        parts("sets 0 and 1", x, 428573, 428571, 71428, 71428);
        x.forget();
        x.sound(0, 4);
        parts("sets 2 and 3", x, 71428, 71428, 428573, 428571);
        x = on("size 2 2;row 5 5;bar a takes 1 chance 8 goes 0 comes 0;bar b takes 1 chance 8 goes 0 comes 0;at a 0 0 to 0 0;");
        x.sound(0, 4);
        parts("sets 1 and 3", x, 71428, 428573, 71428, 428571);
    }

    private static void daysWithoutAndWithAllSixteenths() {
        says("times the sixteenths with which each BAR goes, stays, comes, or stays away from that set to this one");
        String bar = "size 2 2;bar a takes 1 chance 4 goes 4 comes 4;";
        int[][] cases = {{0, 0, 250000}, {16, 16, 750000}, {16, 0, 0}, {0, 16, 1000000}, {1, 0, 234375}, {0, 1, 296875}};
        for (int[] c : cases) {
            PoleRiver x = on(bar.replace("goes 4 comes 4", "goes " + c[0] + " comes " + c[1]));
            well("a day", x, x.pass(1), 1);
            parts("goes " + c[0] + " comes " + c[1], x, 1000000 - c[2], c[2]);
        }
        PoleRiver x = on("size 2 2;bar a takes 1 chance 16 goes 16 comes 16;bar b takes 1 chance 0 goes 0 comes 16;");
        x.pass(1);
        parts("each by itself", x, 0, 0, 1000000, 0);
        x.pass(1);
        parts("and again", x, 0, 0, 0, 1000000);
        x = on("size 2 2;");
        x.pass(9);
        parts("without BARS", x, 1000000);
    }

    private static void daysShareOut() {
        says("A DAY goes by: of each set all sets' parts");
        // 7 days by one: each day is shared out, so 3 and 4 days come to the same as 7
        String text = "size 2 2;bar a takes 1 chance 14 goes 7 comes 7;bar b takes 1 chance 15 goes 11 comes 7;";
        PoleRiver x = on(text);
        x.pass(3);
        x.pass(4);
        parts("three and four", x, 305555, 305557, 194444, 194444);
    }

    private static void thereOfNoneAndAll() {
        says("THERE of a BAR: parts of all sets with it, together, by 1,000,000");
        PoleRiver x = on(TWO.replace("chance 8", "chance 0").replace("chance 4", "chance 16"));
        agreed("none", x, x.there(0));
        fraction("none", x, 0, 1);
        agreed("all", x, x.there(1));
        fraction("all", x, 1, 1);
        x = on(FIVE);
        agreed("the last of five", x, x.there(4));
        // its 16 sets: 2980 and 4 times 6556, 6 times 14424, 4 times 31733, 69813
        fraction("the last of five", x, 312493, 1000000);
    }

    // ---- Terms 2: SOUNDINGS

    private static void readingsOfACall() {
        says("A SOUNDING of a CELL reads so many steps (-9 to 30 in a call");
        PoleRiver x = on("size 2 2;row 20 0;bar a takes 9 chance 8 goes 0 comes 0;at a 1 0 to 1 0;stage 9 less 9;");
        agreed("30 of 29", x, x.sound(0, 30));
        refused("31", x, x.sound(0, 31), 1);
        refused("far above", x, x.sound(0, MOST), 1);
        x.pass(1);
        agreed("-9 of -9", x, x.sound(1, -9));
        well("it is gone", x, x.part(0), 1000000);
        refused("-10, though it could be read", x, x.sound(1, -10), 1);
        refused("far below", x, x.sound(1, LEAST), 1);
    }

    private static void readingsBesideTheDepth() {
        says("of thirty-two twice POLE if that is the depth of that day, 16 less POLE if it is one more, or one less, else 0");
        for (int pole : new int[] {0, 1, 12, 15, 16}) {
            PoleRiver x = on(TWO + "pole " + pole + ";");
            for (int read = 6; read <= 12; read++) {
                int off = Math.abs(read - 9);
                boolean can = off == 0 ? pole > 0 : off == 1 && pole < 16;
                due("pole " + pole + " reads " + read, x.sound(0, read), can);
                due("its STATUS", x.status(), can ? 0 : 7);
            }
            parts("a CELL of no BAR tells nothing", x, 375000, 375000, 125000, 125000);
        }
    }

    private static void readingsByTheDepthOfTheDay() {
        says("if that is the depth of that day");
        PoleRiver x = on(TWO + "stage 0 2 less 3;");
        refused("day 0 reads 7", x, x.sound(1, 7), 7);
        agreed("day 0 reads 6", x, x.sound(1, 6));
        x.forget();
        x.pass(1);
        agreed("day 1 reads 7: gone", x, x.sound(1, 7));
        x.there(0);
        fraction("gone", x, 0, 1);
        x.pass(1);
        agreed("day 2 reads -1: there", x, x.sound(1, -1));
        x.there(0);
        fraction("there", x, 1, 1);
        x.pass(1);
        agreed("day 3 reads 5 again: gone", x, x.sound(1, 5));
    }

    private static void readingsThatCannotBe() {
        says("(it can't be, if all are 0)");
        PoleRiver x = on(TWO);
        for (int read : new int[] {-9, 0, 7, 30}) {
            refused("reads " + read, x, x.sound(1, read), 7);
            parts("nothing changed", x, 375000, 375000, 125000, 125000);
        }
        agreed("gone", x, x.sound(1, 5));
        refused("there, though it is gone", x, x.sound(1, 2), 7);
        parts("nothing changed", x, 750000, 0, 250000, 0);
        x = on(TWO.replace("takes 3 chance 8", "takes 2 chance 8") + "pole 0;");
        agreed("4 is one from 5 and from 3", x, x.sound(1, 4));
        parts("tells nothing", x, 375000, 375000, 125000, 125000);
        refused("5 is never read right", x, x.sound(1, 5), 7);
    }

    private static void readingsThatTellOneFromAnother() {
        says("parts times that, by all these together, times 1,000,000, shared out");
        String text = "size 2 2;row 5 5;bar a takes 1 chance 8 goes 0 comes 0;at a 0 0 to 0 0;pole ";
        PoleRiver x = on(text + "12;");
        agreed("24 to 4", x, x.sound(0, 5));
        parts("24 to 4", x, 857143, 142857);
        x.forget();
        agreed("4 to 24", x, x.sound(0, 4));
        parts("4 to 24", x, 142857, 857143);
        x.forget();
        agreed("4 to 0", x, x.sound(0, 6));
        parts("4 to 0", x, 1000000, 0);
        x.forget();
        agreed("0 to 4", x, x.sound(0, 3));
        parts("0 to 4", x, 0, 1000000);
        x = on(text + "1;");
        agreed("2 to 15", x, x.sound(0, 5));
        parts("2 to 15", x, 117647, 882353);
    }

    private static void coloursOfNoBar() {
        says("sixteenths COLOUR if that is so in a set (of a CELL of no BAR: none is), 16 less COLOUR if not");
        PoleRiver x = on(TWO + "colour 13;");
        agreed("none, said to be there", x, x.colour(0, true));
        agreed("none, said to be gone", x, x.colour(0, false));
        parts("tells nothing", x, 375000, 375000, 125000, 125000);
        agreed("b there: 13 to 3", x, x.colour(4, true));
        // 9, 9, 13, 13 of 44
        parts("13 to 3", x, 204545, 204545, 295454 + 2, 295454);
    }

    private static void coloursThatCannotBe() {
        says("16 less COLOUR if not; likewise");
        PoleRiver x = on(TWO + "colour 16;");
        refused("none is there", x, x.colour(0, true), 7);
        agreed("none is gone", x, x.colour(0, false));
        agreed("a is there", x, x.colour(1, true));
        refused("a is gone, though it is there", x, x.colour(1, false), 7);
        parts("nothing changed", x, 0, 750000, 0, 250000);
        x = on(TWO + "colour 0;");
        agreed("none, by what is always wrong", x, x.colour(0, true));
        refused("none, said to be gone, by what is always wrong", x, x.colour(0, false), 7);
        agreed("a is there, when said to be gone", x, x.colour(1, false));
        parts("there", x, 0, 750000, 0, 250000);
    }

    // ---- Terms 2: DEPTH

    private static void depthsWithASet() {
        says("its steps and STAGE, less what its BAR takes if it is in the set");
        PoleRiver x = on(FIVE + "stage 0 less 9 9;");
        for (int k = 0; k < 5; k++) {
            well("of no BAR", x, x.depth(k, 31), 9);
            well("with none", x, x.depth(5 + k, 0), 5);
            well("with its own", x, x.depth(5 + k, 1 << k), 4 - k);
            well("with all others", x, x.depth(5 + k, 31 - (1 << k)), 5);
            well("with all", x, x.depth(5 + k, 31), 4 - k);
        }
        x.pass(1);
        well("below 0", x, x.depth(9, 31), -9);
        x.pass(1);
        well("far up", x, x.depth(0, 31), 18);
        x.pass(1);
        well("without STAGE", x, x.depth(9, 31), 0);
    }

    private static void passesAtLeastDraft() {
        says("The boat PASSES, if that is at least DRAFT less what was put OFF (0 to LOAD)");
        PoleRiver x = on("size 4 2;row 6 5 4 3;row 0 0 0 0;boat draft 6 load 3 straight 1 slant 1 turn 0 lost 0;");
        lay(x, 0, 0, 0, 1, 2, 3);
        for (int off = 0; off <= 3; off++) {
            agreed("off", x, x.off(off));
            if (off < 3) {
                well("depth " + (6 - off) + " is enough, one less is not", x, x.struck(0, 4, 0), off + 1);
            } else {
                none("all is enough", x, x.struck(0, 4, 0), 6);
            }
        }
    }

    private static void openAndShut() {
        says("A CELL is OPEN, if she passes though its BAR is there, SHUT, if not even if it is not; else it is of its BAR");
        for (int depth = 2; depth <= 9; depth++) {
            PoleRiver x = on("size 2 2;row " + depth + " " + depth + ";bar a takes 3 chance 0 goes 0 comes 0;at a 0 0 to 0 0;"
                    + "bar b takes 9 chance 16 goes 0 comes 0;boat draft 5 load 1 straight 1 slant 1 turn 0 lost 0;");
            well("depth " + depth, x, x.open(0), depth >= 8 ? 2 : depth >= 5 ? 1 : 0);
            well("of no BAR, depth " + depth, x, x.open(1), depth >= 5 ? 2 : 0);
            x.off(1);
            well("OFF, depth " + depth, x, x.open(0), depth >= 7 ? 2 : depth >= 4 ? 1 : 0);
        }
    }

    // ---- the object's use

    private static void fiveHundredAndTwelveCalls() {
        says("An object is used for at most 512 calls after it has been made");
        PoleRiver x = on(TWO);
        // that took as many calls as there are twenties of bytes, river() and its STATUS
        int calls = (TWO.length() + 19) / 20 + 2;
        for (int day = 1; calls + 8 <= 512; day = day % 99 + 1) {
            if (day == 1) {
                x.forget();
                calls++;
            }
            well("pass", x, x.pass(1), day);
            calls += 2;
        }
        for (; calls < 507; calls++) {
            x.told(0);
        }
        agreed("forget, the 508th and its STATUS", x, x.forget());
        well("the 510th, and its STATUS", x, x.surest(0, 2), 2);
        due("the 512th", x.bottom(), 4);
    }

    private static void noneIsOneBelowNought() {
        says("The constants: `NONE = -1`: None.");
        due("NONE", PoleRiver.NONE, -1);
        PoleRiver x = on(TWO);
        due("NONE of a call", x.part(4), PoleRiver.NONE);
    }

    // ---- promises 1 to 4

    private static void newObject() {
        says("A RIVER of no CELLS, BARS; day 0; all of THOUGHT is the empty set; nothing OFF; no RULE, MARKS; TRAYS are "
                + "MISSING; an empty tape; the FRACTION 0 by 1; STATUS 0.");
        PoleRiver x = new PoleRiver();
        due("STATUS", x.status(), 0);
        fraction("FRACTION", x, 0, 1);
        int[] due = {0, 0, 0, 0, 0, 4, 0, 10, 14, 1, 120, 12, 11};
        for (int k = 0; k < due.length; k++) {
            well("told " + k, x, x.told(k), due[k]);
        }
        none("no CELL", x, x.open(0), 1);
        none("no CELL to go from", x, x.soonest(0, 0, 0), 1);
        none("no BAR", x, x.bar(0, 0), 1);
        well("no STAGE", x, x.stage(0), 0);
        parts("the empty set", x, 1000000);
        agreed("CHANCE of the empty set", x, x.chance(0));
        fraction("all of it", x, 1, 1);
        refused("there of none", x, x.there(0), 1);
        none("no MARK", x, x.back(), 6);
        for (int t = 0; t < 4; t++) {
            none("MISSING", x, x.read(t, 0), 2);
        }
        none("an empty tape", x, x.rule(1), 1);
        none("no way", x, x.length(), 6);
        none("none played", x, x.played(0), 6);
        refused("nothing to put OFF", x, x.off(1), 1);
        none("no CELL to play from", x, x.play(0, 0, 0), 1);
        newMark();
    }

    private static void newMark() {
        PoleRiver x = new PoleRiver();
        well("a MARK of it", x, x.mark(), 1);
        river(x, TWO);
        well("back to no CELLS", x, x.back(), 0);
        well("no width", x, x.told(0), 0);
        parts("the empty set again", x, 1000000);
        well("days go by", x, x.pass(9), 9);
        agreed("forget", x, x.forget());
        parts("the empty set still", x, 1000000);
    }

    private static void statusOfTheLatest() {
        says("STATUS of the latest call that has one.");
        PoleRiver x = on(TWO);
        x.part(-1);
        due("1", x.status(), 1);
        due("again", x.status(), 1);
        x.top();
        x.bottom();
        x.fault(0);
        x.feed(0, 0, 0, 0, 0);
        due("those without one", x.status(), 1);
        for (int k = 0; k < 50; k++) {
            x.feed(0, 0, 0, 0, 0);
        }
        due("a tape that is full", x.status(), 1);
        x.read(0, 0);
        due("2", x.status(), 2);
        x.tray(0, 0, 0);
        due("0", x.status(), 0);
        x.read(0, 0);
        due("3", x.status(), 3);
        x.length();
        due("6", x.status(), 6);
        x.sound(0, 0);
        due("7", x.status(), 7);
        x.tray(1, 1, 0);
        x.pour(0, 0, 1, 0, 0);
        due("8", x.status(), 8);
        x.river(0);
        due("9", x.status(), 9);
    }

    private static void topOfTheLatest() {
        says("The top of the FRACTION told latest.");
        PoleRiver x = on(TWO);
        x.there(0);
        fraction("half", x, 1, 2);
        x.there(1);
        fraction("a quarter", x, 1, 4);
        x.there(2);
        fraction("refused", x, 1, 4);
        x.surest(0, 9);
        fraction("refused", x, 1, 4);
        x.soonest(0, 2, 3);
        x.pass(1);
        x.lighten(0, 2, 1);
        x.next(0, 2, 1);
        x.play(0, 2, 1);
        x.tally(0, 2, 1, 3, 0);
        x.mark();
        x.back();
        x.forget();
        fraction("those that tell none", x, 1, 4);
        river(x, TWO);
        fraction("another RIVER", x, 1, 4);
    }

    private static void bottomAboveNought() {
        says("Its bottom, above 0.");
        PoleRiver x = on(TWO.replace("chance 8", "chance 0").replace("chance 4", "chance 16"));
        x.there(0);
        fraction("0 is 0 by 1", x, 0, 1);
        x.there(1);
        fraction("1 is 1 by 1", x, 1, 1);
        x.sound(4, 2);
        x.chance(2);
        fraction("0 again", x, 0, 1);
        x.chance(1);
        fraction("1 again", x, 1, 1);
        x = on(FIVE);
        x.chance(31);
        // 153605 parts
        fraction("no common divisor", x, 30721, 200000);
    }

    // ---- promises 13 to 18

    private static void toldNumbers() {
        says("(12) (1).");
        PoleRiver x = on(TWO);
        for (int what : new int[] {-1, 13, LEAST, MOST}) {
            none("told " + what, x, x.told(what), 1);
        }
        well("the first", x, x.told(0), 3);
        well("the last", x, x.told(12), 11);
    }

    private static void barNumbers() {
        says("5: the least of them (1; for 5: 6: none).");
        PoleRiver x = on(TWO + "bar c takes 9 chance 15 goes 14 comes 13;at a 0 1 to 0 1;");
        for (int bar : new int[] {-1, 3, 5, LEAST, MOST}) {
            none("bar " + bar, x, x.bar(bar, 0), 1);
            none("bar " + bar + " has no CELLS", x, x.bar(bar, 5), 1);
        }
        for (int what : new int[] {-1, 6, LEAST, MOST}) {
            none("what " + what, x, x.bar(2, what), 1);
        }
        well("no CELLS", x, x.bar(2, 4), 0);
        none("no least one", x, x.bar(2, 5), 6);
        well("the rest of it", x, x.bar(2, 3), 13);
        well("two CELLS", x, x.bar(0, 4), 2);
        well("the least of them, told first or not", x, x.bar(0, 5), 1);
        x = on(TWO + "at b 0 0 to 0 0;");
        well("the least of them, told last", x, x.bar(1, 5), 0);
    }

    private static void barsOfCells() {
        says("The BAR of a CELL (1; 6: of none).");
        PoleRiver x = on(TWO + "at b 2 1 to 2 1;");
        for (int cell : new int[] {-1, 6, 60, LEAST, MOST}) {
            none("cell " + cell, x, x.barOf(cell), 1);
        }
        none("the first of none", x, x.barOf(0), 6);
        well("BAR 0", x, x.barOf(1), 0);
        well("the last CELL", x, x.barOf(5), 1);
    }

    private static void stagesOfDays() {
        says("STAGE of a day (0 to 99); STATUS tells NONE from -1 (1).");
        PoleRiver x = on("size 2 2;stage less 1 5 1 1 1 1 1 1 1 1 1 less 1;");
        well("-1 is no NONE", x, x.stage(0), -1);
        well("day 11", x, x.stage(11), -1);
        well("day 12", x, x.stage(12), 0);
        well("day 99", x, x.stage(99), 0);
        for (int day : new int[] {-1, 100, LEAST, MOST}) {
            none("day " + day, x, x.stage(day), 1);
        }
    }

    private static void depthsBelowNought() {
        says("DEPTH of a CELL with a set of BARS there; STATUS tells NONE from -1 (1).");
        PoleRiver x = on("size 2 2;row 2 1;bar a takes 3 chance 8 goes 0 comes 0;at a 0 0 to 0 0;");
        well("-1 is no NONE", x, x.depth(0, 1), -1);
        for (int cell : new int[] {-1, 4, LEAST, MOST}) {
            none("cell " + cell, x, x.depth(cell, 0), 1);
        }
        for (int set : new int[] {-1, 2, 32, LEAST, MOST}) {
            none("set " + set, x, x.depth(0, set), 1);
        }
        well("the last CELL", x, x.depth(3, 1), 0);
    }

    private static void openCells() {
        says("Of a CELL 2: OPEN, 1: of its BAR, 0: SHUT (1).");
        PoleRiver x = on(TWO);
        for (int cell : new int[] {-1, 6, LEAST, MOST}) {
            none("cell " + cell, x, x.open(cell), 1);
        }
        well("OPEN", x, x.open(5), 2);
        well("of its BAR", x, x.open(4), 1);
        well("OPEN, the first", x, x.open(0), 2);
    }

    // ---- promises 19 to 26

    private static void partsOfSets() {
        says("The part of a set (1).");
        PoleRiver x = on(TWO);
        for (int set : new int[] {-1, 4, 32, LEAST, MOST}) {
            none("set " + set, x, x.part(set), 1);
        }
        well("the last", x, x.part(3), 125000);
        x = on(FIVE);
        well("the last of 32", x, x.part(31), 2980);
        none("no more", x, x.part(32), 1);
    }

    private static void thereNumbers() {
        says("The FRACTION is THERE of a BAR (1).");
        PoleRiver x = on(TWO);
        for (int bar : new int[] {-1, 2, 5, LEAST, MOST}) {
            refused("bar " + bar, x, x.there(bar), 1);
        }
        agreed("the last", x, x.there(1));
        fraction("the last", x, 1, 4);
    }

    private static void chanceNumbers() {
        says("The FRACTION is the CHANCE of a set A (1).");
        PoleRiver x = on(TWO);
        for (int a : new int[] {-1, 4, 32, LEAST, MOST}) {
            refused("set " + a, x, x.chance(a), 1);
        }
        agreed("none of all", x, x.chance(3));
        fraction("none of all", x, 3, 8);
        agreed("none of none", x, x.chance(0));
        fraction("none of none", x, 1, 1);
    }

    private static void passNumbers() {
        says("So many DAYS (1 to 9) go by: the day (1;");
        PoleRiver x = on(TWO);
        for (int days : new int[] {0, -1, 10, LEAST, MOST}) {
            none("days " + days, x, x.pass(days), 1);
        }
        parts("none has gone by", x, 375000, 375000, 125000, 125000);
        well("one", x, x.pass(1), 1);
        well("nine", x, x.pass(9), 10);
    }

    private static void passToDayNinetyNine() {
        says("4: it would be above 99");
        PoleRiver x = on(TWO);
        for (int k = 1; k <= 10; k++) {
            well("pass", x, x.pass(9), 9 * k);
        }
        well("day 91", x, x.pass(1), 91);
        int part = x.part(0);
        none("to day 100", x, x.pass(9), 4);
        well("day 91 still", x, x.told(3), 91);
        well("THOUGHT still", x, x.part(0), part);
        well("to day 99", x, x.pass(8), 99);
        none("none behind it", x, x.pass(1), 4);
        none("1 is ahead of 4", x, x.pass(10), 1);
        none("1 is ahead of 4", x, x.pass(MOST), 1);
    }

    private static void soundNumbers() {
        says("A SOUNDING of a CELL reads so (1; 7).");
        PoleRiver x = on(TWO);
        for (int cell : new int[] {-1, 6, LEAST, MOST}) {
            refused("cell " + cell, x, x.sound(cell, 5), 1);
        }
        for (int read : new int[] {-10, 31, LEAST, MOST}) {
            refused("reads " + read, x, x.sound(0, read), 1);
        }
        refused("-9 is a number that can be", x, x.sound(0, -9), 7);
        refused("30 is", x, x.sound(0, 30), 7);
        agreed("the last CELL", x, x.sound(5, 9));
    }

    private static void colourNumbers() {
        says("COLOUR of a CELL says there is a BAR, or not (1; 7).");
        PoleRiver x = on(TWO + "colour 16;");
        for (int cell : new int[] {-1, 6, LEAST, MOST}) {
            refused("cell " + cell, x, x.colour(cell, true), 1);
        }
        refused("7", x, x.colour(5, true), 7);
        agreed("the last CELL", x, x.colour(5, false));
    }

    private static void offNumbers() {
        says("So much is put OFF (1: above LOAD, too).");
        PoleRiver x = on(TWO);
        agreed("none", x, x.off(0));
        agreed("all", x, x.off(3));
        for (int n : new int[] {-1, 4, LEAST, MOST}) {
            refused("off " + n, x, x.off(n), 1);
        }
        well("all still", x, x.told(4), 3);
        agreed("none again", x, x.off(0));
        well("none", x, x.told(4), 0);
        x = on("size 2 2;");
        agreed("none of no LOAD", x, x.off(0));
        refused("one of no LOAD", x, x.off(1), 1);
    }

    private static void forgetThought() {
        says("THOUGHT as at first, day 0, nothing OFF.");
        PoleRiver x = on(TWO);
        rule(x, "wait 2;");
        x.mark();
        lay(x, 0, 1, 5);
        x.soonest(0, 2, 1);
        x.sound(1, 5);
        x.pass(5);
        x.off(2);
        agreed("forget", x, x.forget());
        parts("as at first", x, 375000, 375000, 125000, 125000);
        well("day 0", x, x.told(3), 0);
        well("nothing OFF", x, x.told(4), 0);
        well("the TRAYS stay", x, x.read(0, 0), 5);
        well("the way stays", x, x.length(), 3);
        x.play(0, 2, 0);
        well("the RULE stays", x, x.played(3), 2);
        well("the MARK stays", x, x.back(), 0);
    }
}
