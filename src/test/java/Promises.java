/** One part for each promise: ordinary calls, the edges that the document names, wrong calls. */
public final class Promises extends Due {
    /**
     * Six CELLS: 0 1 2 above 3 4 5. CELL 1 is of BAR 0 (a), CELL 4 of BAR 1 (b): depth 5 without, 2
     * with. Parts at first: none 375000, a 375000, b 125000, both 125000.
     */
    private static final String FORK = "size 3 2;row 9 5 9;row 9 5 9;"
            + "bar a takes 3 chance 8 goes 4 comes 4;bar b takes 3 chance 4 goes 2 comes 0;"
            + "at a 1 0 to 1 0;at b 1 1 to 1 1;"
            + "boat draft 4 load 3 straight 10 slant 14 turn 1 lost 100;";

    public static void main(String[] args) {
        newObject();
        statusAndFraction();
        traysAndPlaces();
        pouring();
        tape();
        riverTexts();
        riverFaults();
        ruleTexts();
        ruleFaults();
        faultCall();
        figures();
        barsAndCells();
        depths();
        firstThought();
        days();
        soundings();
        colours();
        offAndForget();
        waysInTrays();
        soonestWays();
        surestAndMean();
        keptWay();
        worthAndNext();
        lyingTo();
        marks();
        tellingAndDredging();
        brushing();
        lightening();
        playing();
        playingSteps();
        playingOn();
        playedReadings();
        playedColours();
        tallies();
        backToMarks();
        foreignRule();
        finish();
    }

    private static void ruleFault(String text, int kind, int place) {
        ruleFault(FORK, text, kind, place);
    }

    // Promise 1
    private static void newObject() {
        PoleRiver x = new PoleRiver();
        due("status at first", x.status(), 0);
        fraction("fraction at first", x, 0, 1);
        int[] due = {0, 0, 0, 0, 0, 4, 0, 10, 14, 1, 120, 12, 11};
        for (int k = 0; k < due.length; k++) {
            well("told at first " + k, x, x.told(k), due[k]);
        }
        well("part(0) at first", x, x.part(0), 1000000);
        none("part(1) at first", x, x.part(1), 1);
        none("depth at first", x, x.depth(0, 0), 1);
        none("read at first", x, x.read(3, 0), 2);
        none("river(1) on an empty tape", x, x.river(1), 1);
        none("back at first", x, x.back(), 6);
        none("length at first", x, x.length(), 6);
        none("played at first", x, x.played(0), 6);
        due("fault at first", x.fault(0), -1);
        due("place at first", x.fault(1), -1);
        well("pass without BARS", x, x.pass(1), 1);
        well("part(0) then", x, x.part(0), 1000000);
        none("off without LOAD", x, x.off(1) ? 1 : -1, 1);
    }

    // Promises 2, 3, 4
    private static void statusAndFraction() {
        PoleRiver x = on(FORK);
        none("part(9)", x, x.part(9), 1);
        x.top();
        x.bottom();
        x.fault(0);
        x.feed(0, 0, 0, 0, 0);
        due("those without a STATUS leave it", x.status(), 1);
        agreed("there(1)", x, x.there(1));
        fraction("there(1)", x, 1, 4);
        refused("there(2)", x, x.there(2), 1);
        fraction("a refused call leaves it", x, 1, 4);
        x.part(0);
        fraction("a call without one leaves it", x, 1, 4);
        x.sound(1, 5);
        agreed("there(0), gone", x, x.there(0));
        fraction("0 is 0 by 1", x, 0, 1);
    }

    // Promises 5, 6, 7
    private static void traysAndPlaces() {
        PoleRiver x = new PoleRiver();
        refused("tray(-1)", x, x.tray(-1, 0, 1), 1);
        refused("tray(4)", x, x.tray(4, 0, 1), 1);
        refused("sort -1", x, x.tray(0, -1, 1), 1);
        refused("sort 4", x, x.tray(0, 4, 1), 1);
        refused("many -1", x, x.tray(0, 0, -1), 1);
        refused("many 61", x, x.tray(0, 0, 61), 1);
        none("still MISSING", x, x.read(0, 0), 2);
        agreed("many 60", x, x.tray(0, 3, 60));
        well("place 59", x, x.read(0, 59), 0);
        none("place 60", x, x.read(0, 60), 3);
        none("place -1", x, x.read(0, -1), 3);
        none("read(4, 0)", x, x.read(4, 0), 1);
        agreed("many 0", x, x.tray(1, 0, 0));
        none("no place at all", x, x.read(1, 0), 3);
        refused("write to none", x, x.write(1, 0, 1L), 3);
        refused("write to MISSING", x, x.write(2, 0, 1L), 2);
        refused("write(-1, 0)", x, x.write(-1, 0, 1L), 1);
        long[] cut = {0x88L - 256L, 0x7788L, 0x55667788L, 0x1122334455667788L};
        for (int sort = 0; sort < 4; sort++) {
            x.tray(2, sort, 2);
            agreed("write", x, x.write(2, 1, 0x1122334455667788L));
            well("cut to sort " + sort, x, x.read(2, 1), cut[sort]);
            x.write(2, 1, -1L);
            well("-1 in sort " + sort, x, x.read(2, 1), -1L);
            well("the place beside", x, x.read(2, 0), 0L);
        }
        x.write(2, 0, 5L);
        agreed("laid anew", x, x.tray(2, 3, 2));
        well("all 0 again", x, x.read(2, 0), 0L);
    }

    // Promise 8
    private static void pouring() {
        PoleRiver x = new PoleRiver();
        x.tray(0, 1, 6);
        x.tray(1, 1, 3);
        x.tray(2, 2, 6);
        for (int k = 0; k < 6; k++) {
            x.write(0, k, 10L + k);
        }
        refused("from -1", x, x.pour(-1, 0, 1, 0, 1), 1);
        refused("to 4", x, x.pour(0, 0, 4, 0, 1), 1);
        refused("place -1", x, x.pour(0, -1, 1, 0, 1), 1);
        refused("at -1", x, x.pour(0, 0, 1, -1, 1), 1);
        refused("many -1", x, x.pour(0, 0, 1, 0, -1), 1);
        refused("below 0 ahead of MISSING", x, x.pour(3, -1, 1, 0, 1), 1);
        refused("from MISSING", x, x.pour(3, 0, 1, 0, 1), 2);
        refused("to MISSING", x, x.pour(0, 0, 3, 0, 1), 2);
        refused("unlike", x, x.pour(0, 0, 2, 0, 1), 8);
        refused("unlike ahead of too few", x, x.pour(0, 0, 2, 0, 9), 8);
        refused("too few from", x, x.pour(0, 4, 1, 0, 3), 3);
        refused("too few to", x, x.pour(0, 0, 1, 1, 3), 3);
        refused("far too many", x, x.pour(0, 2147483647, 1, 0, 2147483647), 3);
        agreed("three", x, x.pour(0, 3, 1, 0, 3));
        well("poured", x, x.read(1, 2), 15L);
        agreed("onto itself", x, x.pour(0, 0, 0, 1, 5));
        for (int k = 0; k < 6; k++) {
            well("as they were " + k, x, x.read(0, k), 10L + Math.max(0, k - 1));
        }
        agreed("down itself", x, x.pour(0, 2, 0, 0, 4));
        well("as they were down", x, x.read(0, 3), 14L);
        agreed("none, at the end", x, x.pour(0, 6, 1, 3, 0));
        refused("none, behind the end", x, x.pour(0, 7, 1, 0, 0), 3);
    }

    // Promise 9
    private static void tape() {
        PoleRiver x = new PoleRiver();
        for (int k = 1; k <= 45; k++) {
            due("feed " + k, x.feed(0x20202020, 0x20202020, 0x20202020, 0x20202020, 0x20202020), 20 * k);
        }
        due("feed beyond 900", x.feed(0, 0, 0, 0, 0), -1);
        due("feed has no STATUS", x.status(), 0);
        none("900 blanks", x, x.river(900), 9);
        due("the end at 900", x.fault(1), 900);
        due("the tape is empty again", x.feed(0, 0, 0, 0, 0), 20);
        none("n beyond the tape", x, x.river(21), 1);
        none("n below 0", x, x.river(-1), 1);
        due("a refused river() leaves the tape", x.feed(0, 0, 0, 0, 0), 40);
    }

    // Promise 10, and what a RIVER is without its parts
    private static void riverTexts() {
        PoleRiver x = new PoleRiver();
        well("the least river", x, river(x, "size 2 2;"), 4);
        well("the greatest", x, river(x, "size 10 6 ;"), 60);
        well("blanks", x, river(x, "\n size  0003\n0002;\n "), 6);
        due("without rows", x.depth(5, 0), 0);
        due("draft without boat", x.told(5), 4);
        due("colour without", x.told(12), 11);
        well("no blanks between unlike TOKENS", x, river(x, "size2 2;row1 2;pole3;"), 4);
        due("pole", x.told(11), 3);
        due("row", x.depth(1, 0), 2);
        due("an old boat is gone", on("size 2 2;").told(10), 120);
        feed(x, "size 2 3;row 9 9;");
        well("the first bytes alone", x, x.river(9), 6);
        due("the rest of the tape is gone", x.feed(0, 0, 0, 0, 0), 20);
        none("n has no more than the tape", x, x.river(40), 1);
        x = new PoleRiver();
        well("five BARS", x, river(x, "size 2 2;bar a takes 9 chance 16 goes 16 comes 16;"
                + "bar b takes 1 chance 0 goes 0 comes 0;bar there takes 1 chance 0 goes 0 comes 0;"
                + "bar sound takes 1 chance 0 goes 0 comes 0;bar abcdefgh takes 1 chance 0 goes 0 comes 0;"), 4);
        well("all certain", x, x.part(1), 1000000);
        x.pass(3);
        none("a FAULT", x, river(x, "size 2 2;row 1"), 9);
        well("leaves the old RIVER", x, x.told(2), 5);
        well("and its day", x, x.told(3), 3);
        x = on(FORK);
        x.pass(2);
        x.off(3);
        river(x, FORK);
        due("a RIVER begins on day 0", x.told(3), 0);
        due("with nothing OFF", x.told(4), 0);
        due("and THOUGHT as at first", x.part(0), 375000);
    }

    private static void riverFaults() {
        riverFault("", 2, 0);
        riverFault("size", 2, 4);
        riverFault("Size 2 2;", 1, 0);
        riverFault("size 2 2;#", 1, 9);
        riverFault("size 2 2; \t", 1, 10);
        riverFault("size 2 2;\u00e9", 1, 9);
        riverFault("size 12345 2;", 1, 5);
        riverFault("size 00002 2;", 1, 5);
        riverFault("12345", 1, 0);
        riverFault("size 9999 2;", 4, 5);
        riverFault("size 11 2;", 4, 5);
        riverFault("size 1 2;", 4, 5);
        riverFault("size 2 1;", 4, 7);
        riverFault("size 2 7;", 4, 7);
        riverFault("size a 2;", 2, 5);
        riverFault("size 2 2 2;", 2, 9);
        riverFault("size 2 2;;", 2, 9);
        riverFault("size 2 2;rows 1 1;", 2, 9);
        riverFault("size 2 2;row;", 2, 12);
        riverFault("size 2 2;row 1 1", 2, 16);
        riverFault("size 2 2;row 1 1 ", 2, 17);
        riverFault("size 2 2;row 1 21;", 4, 15);
        riverFault("size 2 2;row 1;", 7, 14);
        riverFault("size 2 2;row 1 1 20;", 6, 17);
        riverFault("size 2 2;row 1 1 21;", 4, 17);
        riverFault("size 2 2;row 1 1 bar;", 2, 17);
        riverFault("size 2 2;row 1 1;row 1 1;row", 6, 25);
        riverFault("size 2 2;bar less takes 1 chance 1 goes 1 comes 1;", 2, 13);
        riverFault("size 2 2;bar abcdefghi takes", 2, 13);
        riverFault("size 2 2;bar 4 takes", 2, 13);
        riverFault("size 2 2;bar a take", 2, 15);
        riverFault("size 2 2;bar a takes 10 ", 4, 21);
        riverFault("size 2 2;bar a takes 9 chance 17", 4, 30);
        riverFault("size 2 2;bar a takes 9 chance 16 goes 17", 4, 38);
        riverFault("size 2 2;bar a takes 9 chance 16 goes 16 comes 17", 4, 47);
        String five = "size 2 2;bar a takes 1 chance 1 goes 1 comes 1;bar b takes 1 chance 1 goes 1 comes 1;"
                + "bar c takes 1 chance 1 goes 1 comes 1;bar d takes 1 chance 1 goes 1 comes 1;"
                + "bar e takes 1 chance 1 goes 1 comes 1;";
        riverFault(five + "bar a", 6, five.length());
        String one = "size 3 2;bar a takes 1 chance 1 goes 1 comes 1;";
        int n = one.length();
        riverFault(one + "bar a", 3, n + 4);
        riverFault(one + "at b 0 0 to 0 0;", 3, n + 3);
        riverFault(one + "at size 0 0 to 0 0;", 2, n + 3);
        riverFault(one + "at a 3 0 to 0 0;", 4, n + 5);
        riverFault(one + "at a 2 2 to 0 0;", 4, n + 7);
        riverFault(one + "at a 2 1 to 1 1;", 4, n + 12);
        riverFault(one + "at a 2 1 to 2 0;", 4, n + 14);
        riverFault(one + "at a 2 1 to 2 2;", 4, n + 14);
        riverFault(one + "at a 0 0 to 1 1;at a 1 1 to 2 1;", 5, n + 30);
        riverFault(one + "at a 0 0 to 1 1;at a 1 1 to 2 2;", 4, n + 30);
        riverFault("size 2 2;stage;", 2, 14);
        riverFault("size 2 2;stage 10;", 4, 15);
        riverFault("size 2 2;stage less 10;", 4, 20);
        riverFault("size 2 2;stage less less 1;", 2, 20);
        riverFault("size 2 2;stage 1;stage;", 5, 17);
        String twelve = "size 2 2;stage 1 1 1 1 1 1 1 1 1 1 1 less 1 ";
        riverFault(twelve + "1;", 6, twelve.length());
        riverFault(twelve + "10;", 4, twelve.length());
        riverFault(twelve + "less 10;", 6, twelve.length());
        riverFault("size 2 2;boat draft 0", 4, 20);
        riverFault("size 2 2;boat draft 21", 4, 20);
        riverFault("size 2 2;boat draft 20 load 10", 4, 28);
        riverFault("size 2 2;boat draft 5 load 5", 4, 27);
        riverFault("size 2 2;boat draft 5 load 4 straight 0", 4, 38);
        riverFault("size 2 2;boat draft 5 load 4 straight 100", 4, 38);
        riverFault("size 2 2;boat draft 5 load 4 straight 99 slant 0", 4, 47);
        riverFault("size 2 2;boat draft 5 load 4 straight 99 slant 99 turn 100", 4, 55);
        riverFault("size 2 2;boat draft 5 load 4 straight 99 slant 99 turn 99 lost 1000", 4, 63);
        String boat = "size 2 2;boat draft 20 load 9 straight 99 slant 99 turn 99 lost 999;";
        due("the greatest boat", river(new PoleRiver(), boat), 4);
        riverFault(boat + "boat;", 5, boat.length());
        riverFault("size 2 2;pole 17;", 4, 14);
        riverFault("size 2 2;pole 0;pole", 5, 16);
        riverFault("size 2 2;colour 17;", 4, 16);
        riverFault("size 2 2;colour 16;colour", 5, 19);
        riverFault("size 2 2;pole 16;colour 0;pole 99999;", 5, 26);
        riverFault("size 2 2;pole 99999;", 1, 14);
    }

    // Promise 11, and what a RULE is
    private static void ruleTexts() {
        PoleRiver x = on(FORK);
        well("an empty RULE", x, rule(x, " "), 0);
        well("one STEP", x, rule(x, "go;"), 1);
        well("all STEPS", x, rule(x, "sound a;colour b;wait 9;off 0;off 9;when there a 0;end;when gone b 16;end;"
                + "when sure 16;loop 1;loop 9;go;end;end;end;stop;"), 12);
        none("n below 0", x, x.rule(-1), 1);
        none("n above the tape", x, x.rule(1), 1);
        well("thirty STEPS", x, rule(x, "go; ".repeat(30)), 30);
        well("thirty STEPS and their ends", x, rule(x, "loop 1;end;".repeat(27) + "go;"), 28);
        feed(x, " ".repeat(320));
        none("n above 300", x, x.rule(301), 1);
        well("300 blanks", x, x.rule(300), 0);
        river(x, "size 2 2;bar there takes 1 chance 1 goes 1 comes 1;bar sure takes 1 chance 1 goes 1 comes 1;");
        well("BARS that are named as WORDS are", x, rule(x, "when there there 1;when gone sure 1;sound sure;end;end;"), 3);
    }

    private static void ruleFaults() {
        ruleFault("?", 1, 0);
        ruleFault("go", 2, 2);
        ruleFault("go go", 2, 3);
        ruleFault("row 1;", 2, 0);
        ruleFault("end;", 2, 0);
        ruleFault("loop 1;end", 2, 10);
        ruleFault("loop 1;go;", 2, 10);
        ruleFault("loop 1;end;end;", 2, 11);
        ruleFault("loop 0;", 4, 5);
        ruleFault("loop 10;", 4, 5);
        ruleFault("wait 0;", 4, 5);
        ruleFault("wait 10;", 4, 5);
        ruleFault("off 10;", 4, 4);
        ruleFault("when sure 17;", 4, 10);
        ruleFault("when there a 17;", 4, 13);
        ruleFault("when a 1;", 2, 5);
        ruleFault("when there c 1;", 3, 11);
        ruleFault("when there size 1;", 2, 11);
        ruleFault("when there abcdefghi 1;", 2, 11);
        ruleFault("sound c;", 3, 6);
        ruleFault("sound bar;", 2, 6);
        ruleFault("sound 1;", 2, 6);
        ruleFault("colour c;", 3, 7);
        ruleFault("colour A;", 1, 7);
        ruleFault("wait 12345;", 1, 5);
        ruleFault("loop 1;when sure 0;loop 1;when", 7, 26);
        ruleFault("loop 1;when sure 0;loop 1;go;end;end;loop 1;loop 1;loop", 7, 51);
        String thirty = "go;".repeat(27) + "loop 1;loop 1;loop 1;";
        ruleFault(thirty + "loop", 6, thirty.length());
        ruleFault(thirty + "end;end;end;end;", 2, thirty.length() + 12);
        ruleFault(thirty + "end;end;end;go;", 6, thirty.length() + 12);
        PoleRiver x = on(FORK);
        rule(x, "wait 3;go;");
        rule(x, "wait 3;go");
        x.play(0, 2, 0);
        well("a FAULT leaves the old RULE", x, x.played(3), 3);
        due("and the tape is empty", x.feed(0, 0, 0, 0, 0), 20);
    }

    // Promise 12
    private static void faultCall() {
        PoleRiver x = new PoleRiver();
        none("river", x, river(x, "size 2 3"), 9);
        due("what 0", x.fault(0), 2);
        due("what 1", x.fault(1), 8);
        due("what -1", x.fault(-1), -1);
        due("what 2", x.fault(2), -1);
        none("a refused river()", x, x.river(99), 1);
        due("leaves it", x.fault(0), 2);
        river(x, "size 2 3;");
        due("none", x.fault(0), 0);
        due("none has no place", x.fault(1), -1);
        rule(x, "stop");
        due("of a RULE", x.fault(1), 4);
        due("still STATUS 9", x.status(), 9);
    }

    // Promise 13
    private static void figures() {
        PoleRiver x = on("size 5 3;boat draft 7 load 6 straight 11 slant 15 turn 2 lost 130;pole 9;colour 8;");
        x.off(4);
        x.pass(2);
        int[] due = {5, 3, 0, 2, 4, 7, 6, 11, 15, 2, 130, 9, 8};
        for (int k = 0; k < due.length; k++) {
            well("told " + k, x, x.told(k), due[k]);
        }
        none("told(-1)", x, x.told(-1), 1);
        none("told(13)", x, x.told(13), 1);
    }

    // Promises 14, 15, 16
    private static void barsAndCells() {
        PoleRiver x = on("size 4 3;bar a takes 9 chance 1 goes 2 comes 3;bar b takes 8 chance 4 goes 5 comes 6;"
                + "at a 2 1 to 3 2;at a 0 1 to 0 1;stage 9 less 9 0 1 1 1 1 1 1 1 1 less 7;");
        int[] due = {9, 1, 2, 3, 5, 4};
        for (int k = 0; k < due.length; k++) {
            well("bar a " + k, x, x.bar(0, k), due[k]);
        }
        well("bar b takes", x, x.bar(1, 0), 8);
        well("bar b has no CELLS", x, x.bar(1, 4), 0);
        none("no least one", x, x.bar(1, 5), 6);
        none("bar 2", x, x.bar(2, 0), 1);
        none("bar -1", x, x.bar(-1, 5), 1);
        none("what 6", x, x.bar(0, 6), 1);
        none("what -1", x, x.bar(0, -1), 1);
        well("barOf", x, x.barOf(11), 0);
        none("of none", x, x.barOf(9), 6);
        none("barOf(12)", x, x.barOf(12), 1);
        none("barOf(-1)", x, x.barOf(-1), 1);
        well("stage 0", x, x.stage(0), 9);
        well("stage 1", x, x.stage(1), -9);
        well("stage 11", x, x.stage(11), -7);
        well("stage 12", x, x.stage(12), 0);
        well("stage 99", x, x.stage(99), 0);
        none("stage 100", x, x.stage(100), 1);
        none("stage -1", x, x.stage(-1), 1);
    }

    // Promises 17, 18
    private static void depths() {
        PoleRiver x = on("size 2 2;row 3 5;row 20 6;bar a takes 2 chance 8 goes 0 comes 0;at a 1 0 to 1 1;"
                + "stage 0 less 4 2;boat draft 4 load 1 straight 1 slant 1 turn 0 lost 0;");
        well("depth", x, x.depth(1, 0), 5);
        well("less what its BAR takes", x, x.depth(1, 1), 3);
        well("of no BAR", x, x.depth(2, 1), 20);
        none("a set beyond", x, x.depth(1, 2), 1);
        none("a set below 0", x, x.depth(1, -1), 1);
        none("no CELL", x, x.depth(4, 0), 1);
        none("no CELL below 0", x, x.depth(-1, 0), 1);
        well("SHUT", x, x.open(0), 0);
        well("of its BAR", x, x.open(1), 1);
        well("OPEN", x, x.open(2), 2);
        well("OPEN though the BAR is there", x, x.open(3), 2);
        x.off(1);
        well("OPEN with less draft", x, x.open(1), 2);
        well("of no BAR, just so", x, x.open(0), 2);
        x.off(0);
        x.pass(1);
        well("on a low day", x, x.depth(1, 1), -1);
        well("SHUT even if it is gone", x, x.open(1), 0);
        well("SHUT then", x, x.open(3), 0);
        x.pass(1);
        well("on a high day", x, x.open(1), 2);
        none("open(4)", x, x.open(4), 1);
        none("open(-1)", x, x.open(-1), 1);
    }

    // Promises 19, 20, 21, and THOUGHT at first
    private static void firstThought() {
        PoleRiver x = on(FORK);
        int[] due = {375000, 375000, 125000, 125000};
        for (int k = 0; k < 4; k++) {
            well("part " + k, x, x.part(k), due[k]);
        }
        none("part 4", x, x.part(4), 1);
        none("part -1", x, x.part(-1), 1);
        agreed("there(0)", x, x.there(0));
        fraction("there(0)", x, 1, 2);
        refused("there(-1)", x, x.there(-1), 1);
        refused("there(2)", x, x.there(2), 1);
        agreed("chance(0)", x, x.chance(0));
        fraction("chance(0)", x, 1, 1);
        agreed("chance(1)", x, x.chance(1));
        fraction("chance(1)", x, 1, 2);
        agreed("chance(3)", x, x.chance(3));
        fraction("chance(3)", x, 3, 8);
        refused("chance(4)", x, x.chance(4), 1);
        refused("chance(-1)", x, x.chance(-1), 1);
        // chances of 5 each: by 16 to the fifth, rounded down, and what lacks comes to the greatest
        x = on("size 2 2;bar a takes 1 chance 5 goes 1 comes 1;bar b takes 1 chance 5 goes 1 comes 1;"
                + "bar c takes 1 chance 5 goes 1 comes 1;bar d takes 1 chance 5 goes 1 comes 1;"
                + "bar e takes 1 chance 5 goes 1 comes 1;");
        well("four there: 625 times 11", x, x.part(15), 6556);
        well("all there: 3125", x, x.part(31), 2980);
        // 161051, 73205, 33275, 15125, 6875, 3125 by 1048576: 153590, 69813, 31733, 14424, 6556, 2980
        well("none there: what lacks, too", x, x.part(0), 1000000
                - 5 * 69813 - 10 * 31733 - 10 * 14424 - 5 * 6556 - 2980);
        x = on("size 2 2;bar a takes 1 chance 16 goes 1 comes 1;");
        well("certain", x, x.part(1), 1000000);
        well("never", x, x.part(0), 0);
    }

    // Promise 22
    private static void days() {
        PoleRiver x = on(FORK);
        none("no days", x, x.pass(0), 1);
        none("ten days", x, x.pass(10), 1);
        well("a day", x, x.pass(1), 1);
        well("a comes as it goes", x, x.part(0) + x.part(2), 500000);
        well("b goes: 1/4 by 14/16", x, x.part(2) + x.part(3), 218750);
        well("two days", x, x.pass(2), 3);
        for (int k = 0; k < 10; k++) {
            x.pass(9);
        }
        well("day 93", x, x.told(3), 93);
        none("to day 100", x, x.pass(7), 4);
        well("day 93 still", x, x.told(3), 93);
        well("to day 99", x, x.pass(6), 99);
        none("beyond", x, x.pass(1), 4);
        none("a number that can't be is ahead of that", x, x.pass(10), 1);
        x = on("size 2 2;bar a takes 1 chance 16 goes 5 comes 3;");
        x.pass(1);
        well("stays", x, x.part(1), 687500);
        x.pass(1);
        // 687500 by 11/16 and 312500 by 3/16 are 531250
        well("stays or comes", x, x.part(1), 531250);
        // a greatest of several that are rounded: the least set of those as great
        x = on("size 2 2;bar a takes 1 chance 8 goes 8 comes 8;bar b takes 1 chance 8 goes 8 comes 8;");
        x.pass(9);
        well("equal parts", x, x.part(3), 250000);
    }

    // Promise 23
    private static void soundings() {
        PoleRiver x = on(FORK);
        refused("no CELL", x, x.sound(6, 5), 1);
        refused("no CELL below 0", x, x.sound(-1, 5), 1);
        refused("reads -10", x, x.sound(1, -10), 1);
        refused("reads 31", x, x.sound(1, 31), 1);
        refused("can't be", x, x.sound(1, 30), 7);
        refused("can't be -9", x, x.sound(1, -9), 7);
        well("nothing changed", x, x.part(0), 375000);
        agreed("a CELL without BAR", x, x.sound(0, 10));
        well("tells nothing", x, x.part(0), 375000);
        agreed("as deep as without a", x, x.sound(1, 6));
        well("a is gone", x, x.part(1) + x.part(3), 0);
        well("b as ahead", x, x.part(0), 750000);
        x = on("size 2 2;row 5 5;bar a takes 1 chance 4 goes 0 comes 0;at a 0 0 to 0 0;pole 12;stage 0 3;");
        agreed("reads 5", x, x.sound(0, 5));
        // 750000 times 24, 250000 times 4
        well("likelier gone", x, x.part(0), 947368 + 1);
        well("rounded down", x, x.part(1), 52631);
        x.forget();
        agreed("reads 3: one less than with it", x, x.sound(0, 3));
        well("it is there", x, x.part(1), 1000000);
        refused("reads 6 then", x, x.sound(0, 6), 7);
        x.forget();
        x.pass(1);
        agreed("by the depth of the day", x, x.sound(0, 9));
        well("one more than without", x, x.part(0), 1000000);
        x = on("size 2 2;row 5 5;bar a takes 1 chance 4 goes 0 comes 0;at a 0 0 to 0 0;pole 16;");
        refused("a pole that is always right", x, x.sound(0, 6), 7);
        agreed("reads 4", x, x.sound(0, 4));
        well("there", x, x.part(1), 1000000);
        x = on("size 2 2;row 5 5;bar a takes 2 chance 8 goes 0 comes 0;at a 0 0 to 0 0;pole 0;");
        refused("a pole that is never right", x, x.sound(0, 5), 7);
        agreed("reads 4, one from both", x, x.sound(0, 4));
        well("tells nothing", x, x.part(0), 500000);
        // of parts as great what lacks comes to the least set: 24, 24, 4, 4 of 56
        x = on("size 2 2;row 5 5;bar a takes 1 chance 8 goes 0 comes 0;bar b takes 1 chance 8 goes 0 comes 0;"
                + "at b 0 0 to 0 0;pole 12;");
        agreed("b is likelier gone", x, x.sound(0, 5));
        well("what lacks", x, x.part(0), 428573);
        well("as great, but not the least", x, x.part(1), 428571);
        well("less", x, x.part(3), 71428);
        x = on("size 2 2;bar a takes 1 chance 1 goes 0 comes 0;at a 0 0 to 0 0;");
        agreed("reads below 0", x, x.sound(0, -1));
        well("1/16 by 24, 15/16 by 4", x, x.part(1), 285714);
    }

    // Promise 24
    private static void colours() {
        PoleRiver x = on(FORK + "colour 12;");
        refused("no CELL", x, x.colour(6, true), 1);
        refused("no CELL below 0", x, x.colour(-1, true), 1);
        agreed("a is there", x, x.colour(1, true));
        agreed("there(0)", x, x.there(0));
        fraction("12 to 4", x, 3, 4);
        agreed("a is not", x, x.colour(1, false));
        x.there(0);
        fraction("back again", x, 1, 2);
        agreed("of no BAR, there", x, x.colour(0, true));
        well("tells nothing", x, x.part(0), 375000);
        x = on(FORK + "colour 16;");
        refused("of no BAR, said to be there", x, x.colour(0, true), 7);
        agreed("of no BAR, said to be gone", x, x.colour(0, false));
        agreed("b is there", x, x.colour(4, true));
        refused("b is gone", x, x.colour(4, false), 7);
        x.there(1);
        fraction("b stays there", x, 1, 1);
        x = on(FORK + "colour 0;");
        refused("of no BAR, by a colour that is never right", x, x.colour(0, false), 7);
        agreed("said to be there is gone", x, x.colour(4, true));
        x.there(1);
        fraction("b is gone", x, 0, 1);
    }

    // Promises 25, 26
    private static void offAndForget() {
        PoleRiver x = on(FORK);
        refused("above LOAD", x, x.off(4), 1);
        refused("below 0", x, x.off(-1), 1);
        agreed("all", x, x.off(3));
        well("told", x, x.told(4), 3);
        agreed("less again", x, x.off(1));
        well("told less", x, x.told(4), 1);
        well("still of its BAR", x, x.open(1), 1);
        x.off(2);
        well("OPEN", x, x.open(1), 2);
        x.pass(5);
        x.sound(1, 5);
        x.mark();
        agreed("forget", x, x.forget());
        well("THOUGHT as at first", x, x.part(1), 375000);
        well("day 0", x, x.told(3), 0);
        well("nothing OFF", x, x.told(4), 0);
        well("MARKS stay", x, x.back(), 0);
        well("day 5", x, x.told(3), 5);
    }

    // Promises 27, 28, 29
    private static void waysInTrays() {
        PoleRiver x = on(FORK);
        lay(x, 0, 0, 0, 1, 5, 4, 3, 0, 4, 2);
        well("one CELL", x, x.minutes(0, 1), 0);
        well("a step", x, x.minutes(0, 2), 10);
        well("a slant, an eighth", x, x.minutes(0, 3), 25);
        well("back: three eighths", x, x.minutes(0, 4), 38);
        well("straight on", x, x.minutes(0, 5), 48);
        well("up: a quarter", x, x.minutes(0, 6), 60);
        well("down right: three eighths", x, x.minutes(0, 7), 77);
        well("up right: a quarter", x, x.minutes(0, 8), 93);
        lay(x, 1, 1, 0, 1, 0);
        well("about: four eighths", x, x.minutes(1, 3), 24);
        none("tray 4", x, x.minutes(4, 1), 1);
        none("many 0", x, x.minutes(0, 0), 1);
        none("many 41", x, x.minutes(0, 41), 1);
        none("MISSING", x, x.minutes(3, 1), 2);
        none("too few", x, x.minutes(0, 9), 3);
        lay(x, 2, 3, 0, 2, 6, -1, 1L << 32);
        none("not next", x, x.minutes(2, 2), 5);
        x.write(2, 0, 2L);
        none("the same CELL", x, x.minutes(2, 2), 5);
        x.write(2, 1, 3L);
        none("not round the edge", x, x.minutes(2, 2), 5);
        x.write(2, 0, 6L);
        none("no CELL", x, x.minutes(2, 1), 5);
        x.write(2, 0, -1L);
        none("no CELL below 0", x, x.minutes(2, 1), 5);
        x.write(2, 0, 4294967296L);
        none("no CELL far above", x, x.minutes(2, 1), 5);
        x.tray(2, 0, 60);
        none("40 of the same", x, x.minutes(2, 40), 5);
        well("struck at a", x, x.struck(0, 8, 3), 1);
        well("struck at b", x, x.struck(0, 8, 2), 3);
        none("struck at none", x, x.struck(0, 8, 0), 6);
        none("not so far", x, x.struck(0, 1, 3), 6);
        none("a set beyond", x, x.struck(0, 8, 4), 1);
        none("a set below 0", x, x.struck(0, 8, -1), 1);
        none("struck MISSING", x, x.struck(3, 1, 0), 2);
        none("struck too few", x, x.struck(0, 9, 0), 3);
        none("struck not next", x, x.struck(2, 2, 0), 5);
        agreed("sure", x, x.sure(0, 8));
        fraction("none of both", x, 3, 8);
        agreed("sure of a", x, x.sure(0, 3));
        fraction("a", x, 1, 2);
        agreed("sure of one", x, x.sure(0, 1));
        fraction("one", x, 1, 1);
        refused("sure 4", x, x.sure(4, 1), 1);
        refused("sure of 0", x, x.sure(0, 0), 1);
        refused("sure MISSING", x, x.sure(3, 1), 2);
        refused("sure too few", x, x.sure(0, 9), 3);
        refused("sure not next", x, x.sure(2, 2), 5);
        x.off(2);
        agreed("sure with less draft", x, x.sure(0, 8));
        fraction("certain", x, 1, 1);
        river(x, "size 3 2;row 9 9 9;row 9 1 9;");
        well("SHUT strikes on no set", x, x.struck(0, 8, 0), 3);
        agreed("sure over one SHUT", x, x.sure(0, 8));
        fraction("never", x, 0, 1);
    }

    // Promise 30
    private static void soonestWays() {
        PoleRiver x = on(FORK);
        well("by a", x, x.soonest(0, 2, 1), 20);
        well("by b", x, x.soonest(0, 2, 2), 30);
        well("the CELL down", x, x.way(1), 4);
        well("by either", x, x.soonest(0, 2, 3), 20);
        none("by none", x, x.soonest(0, 2, 0), 6);
        well("its end of a", x, x.soonest(0, 1, 1), 10);
        none("its end is not", x, x.soonest(0, 1, 2), 6);
        none("its beginning is not", x, x.soonest(1, 0, 2), 6);
        well("where she is", x, x.soonest(1, 1, 1), 0);
        none("where she can't be", x, x.soonest(1, 1, 0), 6);
        none("no CELL", x, x.soonest(6, 0, 0), 1);
        none("no end", x, x.soonest(0, -1, 0), 1);
        none("no set", x, x.soonest(0, 2, 4), 1);
        none("no set below 0", x, x.soonest(0, 2, -1), 1);
        fraction("tells no FRACTION", x, 0, 1);
        // all open: two slants with a quarter, or straight and slant
        x = on("size 4 3;row 9 9 9 9;row 9 9 9 9;row 9 9 9 9;"
                + "boat draft 4 load 0 straight 10 slant 14 turn 0 lost 0;");
        well("of two as soon", x, x.soonest(0, 6, 0), 24);
        well("the lesser CELL", x, x.way(1), 1);
        well("from the end", x, x.soonest(6, 0, 0), 24);
        well("the lesser CELL of that", x, x.way(1), 1);
        well("three across, two down", x, x.soonest(0, 11, 0), 38);
        well("first", x, x.way(1), 1);
        well("then", x, x.way(2), 6);
        // turns that cost more than steps
        x = on("size 3 3;row 9 9 9;row 9 1 9;row 9 9 9;boat draft 4 load 0 straight 1 slant 50 turn 9 lost 0;");
        well("round the SHUT one", x, x.soonest(0, 8, 0), 4 + 18);
        well("the lesser side", x, x.way(1), 1);
        x = on("size 4 2;row 9 9 9 9;row 9 9 9 9;boat draft 4 load 0 straight 99 slant 1 turn 0 lost 0;");
        well("by slants", x, x.soonest(0, 2, 0), 2);
        well("by one straight at least", x, x.soonest(0, 1, 0), 99);
        well("and no less", x, x.soonest(0, 3, 0), 101);
        well("straight first: CELL 1 ahead of 5", x, x.way(1), 1);
        x = on("size 2 2;row 4 3;row 3 4;stage 0 1 less 9;");
        well("by the slant", x, x.soonest(0, 3, 0), 14);
        none("no way to the SHUT", x, x.soonest(0, 1, 0), 6);
        x.pass(1);
        well("on a higher day", x, x.soonest(0, 1, 0), 10);
        x.pass(1);
        none("on a lower day", x, x.soonest(0, 0, 0), 6);
    }

    // Promises 31, 32
    private static void surestAndMean() {
        PoleRiver x = on(FORK);
        well("surest", x, x.surest(0, 2), 2);
        fraction("surest", x, 3, 4);
        well("its way", x, x.way(1), 4);
        well("mean", x, x.mean(0, 2), 2);
        fraction("mean: 30 and 100 by 4", x, 55, 1);
        well("surest of one side", x, x.surest(0, 3), 0);
        fraction("certain", x, 1, 1);
        none("no CELL", x, x.surest(0, 6), 1);
        none("no CELL below 0", x, x.surest(-1, 0), 1);
        none("mean no CELL", x, x.mean(0, 6), 1);
        none("mean no CELL below 0", x, x.mean(-1, 0), 1);
        // a as likely as b: the sooner, then the lesser
        x = on(FORK.replace("chance 4", "chance 8"));
        well("as likely: the sooner", x, x.surest(0, 2), 1);
        fraction("half", x, 1, 2);
        well("from below: b is sooner", x, x.surest(3, 5), 2);
        well("as soon: the lesser set", x, x.surest(0, 5), 1);
        // what is never there costs no CHANCE: sets with it are as likely, and may be sooner
        x = on(FORK.replace("chance 8 goes 4", "chance 0 goes 4"));
        well("the one that is never there", x, x.surest(0, 2), 1);
        x = on(FORK.replace("lost 100", "lost 30"));
        well("mean: 20 and 15, or 30 and 7.5", x, x.mean(0, 2), 1);
        fraction("mean", x, 35, 1);
        x = on(FORK.replace("lost 100", "lost 40"));
        well("mean: 20 and 20 as 30 and 10: the least set", x, x.mean(0, 2), 1);
        fraction("mean 40", x, 40, 1);
        x = on(FORK.replace("lost 100", "lost 1").replace("chance 8", "chance 5"));
        well("a fraction", x, x.mean(0, 2), 1);
        fraction("20 and 5/16", x, 325, 16);
        x = on("size 2 2;row 9 0;row 0 0;");
        none("no SUREST", x, x.surest(0, 1), 6);
        none("no MEAN", x, x.mean(0, 3), 6);
        fraction("none told", x, 0, 1);
    }

    // Promises 33, 34
    private static void keptWay() {
        PoleRiver x = on(FORK);
        none("none yet", x, x.length(), 6);
        none("no CELL yet", x, x.way(0), 6);
        x.soonest(0, 2, 1);
        well("three CELLS", x, x.length(), 3);
        well("its first", x, x.way(0), 0);
        well("its last", x, x.way(2), 2);
        none("behind it", x, x.way(3), 6);
        none("ahead of it", x, x.way(-1), 6);
        x.soonest(0, 2, 0);
        x.surest(0, 9);
        well("kept over calls that fail", x, x.way(1), 1);
        x.surest(0, 2);
        well("by surest()", x, x.way(1), 4);
        x.mean(3, 3);
        well("by mean()", x, x.length(), 1);
        well("one CELL", x, x.way(0), 3);
        x.soonest(0, 2, 1);
        rule(x, "go;");
        x.play(0, 2, 0);
        x.tells(0, 2);
        x.lieTo(0, 2, 1, 0);
        x.worth(0, 2, 2);
        well("no other call is such", x, x.way(1), 1);
        river(x, "size 2 2;");
        well("kept over a RIVER", x, x.length(), 3);
    }

    // Promises 35, 36
    private static void worthAndNext() {
        PoleRiver x = on(FORK);
        agreed("worth 0", x, x.worth(0, 2, 0));
        fraction("worth 0", x, 3, 4);
        agreed("worth 1", x, x.worth(0, 2, 1));
        fraction("worth 1: but for both there", x, 7, 8);
        agreed("worth 3", x, x.worth(0, 2, 3));
        fraction("worth 3", x, 7, 8);
        well("next: both as good", x, x.next(0, 2, 1), 0);
        refused("k 4", x, x.worth(0, 2, 4), 1);
        refused("k -1", x, x.worth(0, 2, -1), 1);
        refused("no CELL", x, x.worth(6, 2, 0), 1);
        refused("no end", x, x.worth(0, -1, 0), 1);
        none("next 0", x, x.next(0, 2, 0), 1);
        none("next 4", x, x.next(0, 2, 4), 1);
        none("next no CELL", x, x.next(0, 6, 1), 1);
        well("THOUGHT stays", x, x.part(0), 375000);
        x = on("size 2 2;row 9 0;row 0 0;bar a takes 1 chance 8 goes 0 comes 0;bar b takes 1 chance 8 goes 0 comes 0;"
                + "at b 1 1 to 1 1;");
        agreed("without SUREST", x, x.worth(0, 3, 2));
        fraction("0", x, 0, 1);
        well("next passes over those without CELLS", x, x.next(0, 3, 2), 1);
        x = on(FORK.replace("at a 1 0 to 1 0;at b 1 1 to 1 1;", ""));
        agreed("no BAR has a CELL", x, x.worth(0, 2, 3));
        fraction("as with 0", x, 1, 1);
        none("no next", x, x.next(0, 2, 1), 6);
        x = on("size 2 2;");
        none("no next without BARS", x, x.next(0, 0, 1), 6);
        // one BAR: only if it is gone she passes, so no SOUNDING is worth more; the pole errs
        x = on("size 3 2;row 9 5 9;row 0 5 0;bar a takes 1 chance 8 goes 0 comes 0;bar b takes 1 chance 8 goes 0 comes 0;"
                + "at a 1 0 to 1 0;at b 1 1 to 1 1;boat draft 5 load 0 straight 10 slant 10 turn 0 lost 0;pole 12;");
        agreed("worth 0", x, x.worth(0, 2, 0));
        fraction("worth 0", x, 1, 2);
        agreed("worth 1 by a pole that errs", x, x.worth(0, 2, 1));
        // reads 6: 4/32 gone; 5: 24/32 gone, 4/32 there; 4: 4/32, 24/32; 3: 0, 4/32. Gone or there 1/2:
        // 6 and 5: by a: (4 + 24) / 64; 4 and 3: by b: (28 + 4) / 128: in all 28/64 + 16/64
        fraction("worth 1 by a pole that errs", x, 11, 16);
        well("next", x, x.next(0, 2, 2), 0);
        // by a pole of 15: of 32 6: 1 gone; 5: 30 gone, 1 there; 4: 1, 30; 3: 1 there
        x = on("size 3 2;row 9 5 9;row 0 5 0;bar a takes 1 chance 8 goes 0 comes 0;bar b takes 3 chance 8 goes 0 comes 0;"
                + "at a 1 0 to 1 0;at b 1 1 to 1 1;boat draft 5 load 0 straight 10 slant 10 turn 0 lost 0;pole 15;");
        agreed("worth by a pole of 15", x, x.worth(0, 2, 1));
        // b by any reading but one that can be both: she is told all: 3/4
        fraction("by b", x, 3, 4);
        x = on("size 3 2;row 9 5 9;row 0 5 0;bar a takes 1 chance 8 goes 0 comes 0;bar b takes 1 chance 8 goes 0 comes 0;"
                + "at a 1 0 to 1 0;at b 1 1 to 1 1;boat draft 5 load 0 straight 10 slant 10 turn 0 lost 0;pole 15;");
        agreed("worth by a pole of 15", x, x.worth(0, 2, 1));
        // 6 and 5: by a: 31/64; 4 and 3: by b: 32/128
        fraction("by a", x, 47, 64);
        x = on("size 3 3;row 9 5 9;row 9 5 9;row 0 0 0;bar z takes 3 chance 8 goes 0 comes 0;"
                + "bar a takes 3 chance 8 goes 4 comes 4;bar b takes 3 chance 4 goes 2 comes 0;"
                + "at z 1 2 to 1 2;at a 1 0 to 1 0;at b 1 1 to 1 1;");
        well("a BAR that is in no one's way is not sounded", x, x.next(0, 2, 1), 1);
        well("of two the second is enough", x, x.next(0, 2, 2), 0);
        x = on("size 4 2;row 9 5 5 9;row 9 0 5 0;bar a takes 3 chance 4 goes 0 comes 0;"
                + "bar b takes 3 chance 8 goes 0 comes 0;bar c takes 3 chance 8 goes 0 comes 0;"
                + "at a 1 0 to 1 0;at b 2 0 to 2 0;at c 2 1 to 2 1;");
        well("what is not to be known is not sounded", x, x.next(0, 3, 1), 1);
        agreed("worth", x, x.worth(0, 3, 1));
        fraction("3/4 by 3/4", x, 9, 16);
    }

    // Promise 37
    private static void lyingTo() {
        PoleRiver x = on(FORK);
        well("a day is worth 31250", x, x.lieTo(0, 2, 1, 31249), 1);
        fraction("the CHANCE then", x, 25, 32);
        well("as good: the soonest", x, x.lieTo(0, 2, 1, 31250), 0);
        fraction("the CHANCE now", x, 3, 4);
        well("no days", x, x.lieTo(0, 2, 0, 0), 0);
        well("nine days", x, x.lieTo(0, 2, 9, 0), 9);
        none("no CELL", x, x.lieTo(6, 2, 1, 0), 1);
        none("no end", x, x.lieTo(0, -1, 1, 0), 1);
        none("ten days", x, x.lieTo(0, 2, 10, 0), 1);
        none("days below 0", x, x.lieTo(0, 2, -1, 0), 1);
        none("cost below 0", x, x.lieTo(0, 2, 1, -1), 1);
        none("cost above", x, x.lieTo(0, 2, 1, 1000000), 1);
        well("cost 999999", x, x.lieTo(0, 2, 9, 999999), 0);
        well("day 0 still", x, x.told(3), 0);
        well("THOUGHT still", x, x.part(0), 375000);
        x = on("size 2 2;row 3 3;row 3 3;stage 0 less 1 1 9;");
        well("days without a way are passed over", x, x.lieTo(0, 3, 3, 999999), 2);
        fraction("certain", x, 1, 1);
        none("none on all days", x, x.lieTo(0, 3, 1, 0), 6);
        for (int k = 0; k < 11; k++) {
            x.pass(9);
        }
        none("beyond day 99 is ahead of none", x, x.lieTo(0, 3, 1, 0), 4);
        none("on day 99", x, x.lieTo(0, 3, 0, 0), 6);
    }

    // Promise 38
    private static void marks() {
        PoleRiver x = on(FORK);
        well("none", x, x.marked(0, 2, 0), 0);
        fraction("none", x, 3, 4);
        well("one: both as good", x, x.marked(0, 2, 1), 1);
        fraction("one", x, 7, 8);
        well("two", x, x.marked(0, 2, 2), 3);
        fraction("two", x, 7, 8);
        none("three", x, x.marked(0, 2, 3), 1);
        none("below 0", x, x.marked(0, 2, -1), 1);
        none("six", x, x.marked(0, 2, 6), 1);
        none("no CELL", x, x.marked(6, 2, 1), 1);
        none("no end", x, x.marked(0, 6, 1), 1);
        x = on("size 2 2;row 9 0;row 0 0;bar a takes 1 chance 8 goes 0 comes 0;");
        none("no SUREST", x, x.marked(0, 3, 1), 6);
        none("a number that can't be is ahead", x, x.marked(0, 3, 2), 1);
        x = on("size 4 2;row 9 5 5 9;row 9 0 5 0;bar a takes 3 chance 4 goes 0 comes 0;"
                + "bar b takes 3 chance 8 goes 0 comes 0;bar c takes 3 chance 8 goes 0 comes 0;"
                + "at a 1 0 to 1 0;at b 2 0 to 2 0;at c 2 1 to 2 1;");
        well("the one that helps", x, x.marked(0, 3, 1), 2);
        fraction("3/4 by 3/4", x, 9, 16);
    }

    // Promises 39, 40
    private static void tellingAndDredging() {
        PoleRiver x = on(FORK);
        agreed("tells", x, x.tells(0, 2));
        fraction("but for both", x, 7, 8);
        refused("no CELL", x, x.tells(6, 2), 1);
        refused("no end", x, x.tells(0, -1), 1);
        well("dredged", x, x.dredged(0, 2), 0);
        fraction("certain: both would be, the first is", x, 1, 1);
        none("dredged no CELL", x, x.dredged(6, 2), 1);
        none("dredged no end", x, x.dredged(0, -1), 1);
        well("THOUGHT stays", x, x.part(1), 375000);
        x = on("size 3 2;row 9 5 9;row 0 0 0;bar a takes 3 chance 8 goes 4 comes 4;bar b takes 1 chance 4 goes 2 comes 0;"
                + "at b 1 0 to 1 0;boat draft 5 load 0 straight 10 slant 14 turn 1 lost 100;");
        well("the one that is in the way", x, x.dredged(0, 2), 1);
        agreed("one way alone", x, x.tells(0, 2));
        fraction("the same again", x, 3, 4);
        x = on("size 2 2;row 9 0;row 0 0;bar a takes 1 chance 8 goes 0 comes 0;");
        refused("tells no SUREST", x, x.tells(0, 3), 6);
        none("dredged no SUREST", x, x.dredged(0, 3), 6);
        x = on("size 2 2;row 9 9;row 9 9;");
        none("no BARS", x, x.dredged(0, 3), 6);
        agreed("tells without BARS", x, x.tells(0, 3));
        fraction("certain", x, 1, 1);
    }

    // Promise 41
    private static void brushing() {
        PoleRiver x = on(FORK);
        agreed("brush at a", x, x.brush(0, 2, 0, 12, 1));
        // 175, 25, 49, 7 of 256 times 1,000,000, rounded down; what lacks, 2, comes to the first
        fraction("7/8, rounded", x, 875001, 1000000);
        agreed("no more than 16", x, x.brush(0, 2, 0, 16, 1));
        fraction("as much", x, 875001, 1000000);
        agreed("none more", x, x.brush(0, 2, 0, 0, 1));
        fraction("25/32", x, 25, 32);
        refused("no CELL", x, x.brush(6, 2, 0, 1, 1), 1);
        refused("no end", x, x.brush(0, -1, 0, 1, 1), 1);
        refused("no BAR", x, x.brush(0, 2, 2, 1, 1), 1);
        refused("no BAR below 0", x, x.brush(0, 2, -1, 1, 1), 1);
        refused("more than 16", x, x.brush(0, 2, 0, 17, 1), 1);
        refused("less than 0", x, x.brush(0, 2, 0, -1, 1), 1);
        refused("no days", x, x.brush(0, 2, 0, 1, 0), 1);
        refused("ten days", x, x.brush(0, 2, 0, 1, 10), 1);
        well("day 0 still", x, x.told(3), 0);
        well("THOUGHT still", x, x.part(0), 375000);
        x = on("size 2 2;row 4 4;row 4 4;bar a takes 1 chance 8 goes 0 comes 0;at a 0 0 to 0 0;stage 0 less 1 1;");
        refused("no SUREST then", x, x.brush(0, 3, 0, 1, 1), 6);
        agreed("a day behind", x, x.brush(0, 3, 0, 1, 2));
        fraction("OPEN then", x, 1, 1);
        for (int k = 0; k < 10; k++) {
            x.pass(9);
        }
        agreed("to day 99", x, x.brush(0, 3, 0, 1, 9));
        x.pass(1);
        refused("beyond day 99", x, x.brush(0, 3, 0, 1, 9), 4);
    }

    // Promise 42
    private static void lightening() {
        PoleRiver x = on(FORK);
        well("12 without", x, x.lighten(0, 2, 12), 0);
        well("13 with two off", x, x.lighten(0, 2, 13), 2);
        x.off(3);
        well("whatever is OFF now", x, x.lighten(0, 2, 16), 2);
        well("OFF stays", x, x.told(4), 3);
        none("0", x, x.lighten(0, 2, 0), 1);
        none("17", x, x.lighten(0, 2, 17), 1);
        none("no CELL", x, x.lighten(6, 2, 1), 1);
        none("no end", x, x.lighten(0, -1, 1), 1);
        x = on(FORK.replace("load 3", "load 1"));
        none("not with all the LOAD", x, x.lighten(0, 2, 13), 6);
        x = on("size 2 2;row 9 0;row 0 0;");
        none("no way at all", x, x.lighten(0, 3, 1), 6);
    }

    private static int[] played(PoleRiver x) {
        int[] all = new int[7];
        for (int k = 0; k < 7; k++) {
            all[k] = x.played(k);
            due("played has STATUS 0", x.status(), 0);
        }
        return all;
    }

    /** Minutes, STEPS, SOUNDINGS, days, TRUE, A, left. */
    private static void game(String rule, PoleRiver x, int seed, int how, int... due) {
        due("rule " + rule, rule(x, rule) >= 0, true);
        well("play " + rule + " " + seed, x, x.play(0, 2, seed), how);
        int[] all = played(x);
        for (int k = 0; k < 7; k++) {
            due("played(" + k + ") of " + rule + " " + seed, all[k], due[k]);
        }
    }

    // Promises 43, 44. From seed 0: s is 8713, 59526, 26503, .., by 8 1089, 7440, 3312, ..
    private static void playing() {
        PoleRiver x = on(FORK);
        none("no CELL", x, x.play(6, 2, 0), 1);
        none("no end", x, x.play(0, -1, 0), 1);
        none("seed below 0", x, x.play(0, 2, -1), 1);
        none("seed above", x, x.play(0, 2, 10000), 1);
        none("none played yet", x, x.played(0), 6);
        none("what -1", x, x.played(-1), 1);
        none("what 7", x, x.played(7), 1);
        game("", x, 0, 3, 0, 0, 0, 0, 0, -1, 0);
        // seed 0 draws 89: set 0; 375 is more than that
        game("go;", x, 0, 0, 30, 1, 0, 0, 0, 2, 0);
        // seed 4: s 22877, by 8 2859, by 1000 859: up to set 2 it is 875
        game("go;", x, 4, 1, 130, 1, 0, 0, 2, 2, 0);
        // seed 5: s 26418, 3302, 302: set 0; seed 1: s 12254, 1531, 531: up to set 1 it is 750
        game("go;", x, 1, 0, 30, 1, 0, 0, 1, 2, 0);
        game("stop;go;", x, 0, 3, 0, 1, 0, 0, 0, -1, 0);
        none("a call that fails", x, x.play(0, 9, 0), 1);
        well("leaves what was played", x, x.played(1), 1);
        due("the last seed", x.play(0, 2, 9999) >= 0, true);
        // wait: each BAR draws; 7440 by 16 is 0: below 4, a COMES; b never COMES
        game("wait 1;go;", x, 0, 0, 1470, 2, 0, 1, 1, 2, 0);
        // off at most the LOAD, for 20 minutes each; all is OPEN then
        game("off 9;off 2;go;", x, 0, 0, 80, 3, 0, 0, 0, 0, 0);
        game("off 0;go;", x, 0, 0, 30, 2, 0, 0, 0, 2, 0);
        x.off(1);
        game("off 2;stop;", x, 0, 3, 20, 2, 0, 0, 0, -1, 0);
        well("OFF is as it was", x, x.told(4), 1);
        well("the day is", x, x.told(3), 0);
        well("THOUGHT is", x, x.part(2), 125000);
        x.off(0);
        // sound: 7440 by 32 is 16: below 24, the true depth: a is gone, she goes by a
        game("sound a;go;", x, 0, 0, 50, 2, 1, 0, 0, 1, 0);
        game("sound a;when gone a 0;go;end;", x, 0, 0, 50, 3, 1, 0, 0, 1, 0);
        game("sound a;when there a 1;go;end;", x, 0, 3, 30, 2, 1, 0, 0, -1, 0);
        // colour: 7440 by 16 is 0: below 11, what is so: a is likelier gone: 5/16 there, b 4/16
        game("colour a;when gone a 5;go;end;", x, 0, 0, 35, 3, 0, 0, 0, 2, 0);
        game("colour a;when gone a 4;go;end;", x, 0, 3, 5, 2, 0, 0, 0, -1, 0);
        x = on("size 3 2;row 9 0 9;row 0 0 0;");
        game("wait 9;go;stop;", x, 0, 2, 12960, 2, 0, 9, 0, -1, 0);
        game("when sure 0;stop;end;go;", x, 0, 2, 0, 2, 0, 0, 0, -1, 0);
    }

    private static void playingSteps() {
        PoleRiver x = on(FORK);
        game("when there a 8;stop;end;", x, 0, 3, 0, 2, 0, 0, 0, -1, 0);
        game("when there a 9;stop;end;", x, 0, 3, 0, 1, 0, 0, 0, -1, 0);
        game("when gone a 8;stop;end;", x, 0, 3, 0, 2, 0, 0, 0, -1, 0);
        game("when gone a 7;stop;end;", x, 0, 3, 0, 1, 0, 0, 0, -1, 0);
        game("when sure 12;go;end;", x, 0, 0, 30, 2, 0, 0, 0, 2, 0);
        game("when sure 13;go;end;", x, 0, 3, 0, 1, 0, 0, 0, -1, 0);
        game("loop 3;off 1;off 2;end;go;", x, 0, 0, 60, 8, 0, 0, 0, 0, 0);
        game("loop 2;loop 3;off 0;end;end;", x, 0, 3, 0, 9, 0, 0, 0, -1, 0);
        game("loop 9;end;", x, 0, 3, 0, 1, 0, 0, 0, -1, 0);
        game("loop 9;when there a 9;off 3;end;end;", x, 0, 3, 0, 10, 0, 0, 0, -1, 0);
        game("loop 9;loop 9;off 0;end;end;go;", x, 0, 0, 30, 92, 0, 0, 0, 2, 0);
        game("loop 9;loop 9;off 0;end;end;loop 8;off 0;end;", x, 0, 3, 0, 100, 0, 0, 0, -1, 0);
        game("loop 9;loop 9;off 0;end;end;loop 7;off 0;end;go;", x, 0, 0, 30, 100, 0, 0, 0, 2, 0);
        game("loop 9;loop 9;off 0;end;end;loop 8;off 0;end;go;", x, 0, 3, 0, 100, 0, 0, 0, -1, 1);
        game("loop 9;loop 9;off 0;end;end;loop 9;off 0;end;", x, 0, 3, 0, 100, 0, 0, 0, -1, 1);
        game("loop 9;loop 9;off 0;end;end;loop 7;off 0;end;loop 9;end;", x, 0, 3, 0, 100, 0, 0, 0, -1, 0);
        game("loop 9;loop 9;loop 9;end;end;end;loop 8;off 0;end;", x, 0, 3, 0, 100, 0, 0, 0, -1, 0);
    }

    /** Days without end, SOUNDINGS that can't be, and BARS that are found to be there. */
    private static void playingOn() {
        PoleRiver x = on(FORK);
        game("loop 9;wait 9;end;", x, 0, 3, 81 * 1440, 10, 0, 81, trueBehind81Days(), -1, 0);
        // THOUGHT that a is gone, and it is: a SOUNDING one too many can't change it
        x = on("size 3 2;row 9 5 9;row 0 0 0;bar a takes 1 chance 16 goes 16 comes 16;at a 1 0 to 1 0;"
                + "boat draft 5 load 0 straight 1 slant 1 turn 1 lost 100;pole 0;");
        // there for certain; each day it changes for certain
        game("go;", x, 0, 1, 102, 1, 0, 0, 1, 1, 0);
        game("wait 1;go;", x, 0, 0, 1442, 2, 0, 1, 0, 1, 0);
        game("wait 2;go;", x, 0, 1, 2982, 2, 0, 2, 1, 1, 0);
        game("sound a;sound a;when there a 16;go;end;", x, 0, 1, 162, 4, 2, 0, 1, 1, 0);
        game("colour a;when there a 16;stop;end;", x, 0, 3, 5, 3, 0, 0, 1, -1, 0);
        // a day makes it 31/32 that a is there, and 1/32
        x = on("size 3 2;row 9 5 9;bar a takes 3 chance 15 goes 0 comes 8;at a 1 0 to 1 0;");
        game("wait 1;when there a 16;stop;end;off 0;", x, 0, 3, 1440, 3, 0, 1, 1, -1, 0);
        game("wait 1;when there a 15;stop;end;off 0;", x, 0, 3, 1440, 3, 0, 1, 1, -1, 0);
        game("wait 1;when gone a 15;stop;end;", x, 0, 3, 1440, 2, 0, 1, 1, -1, 0);
        game("wait 1;when gone a 16;stop;end;", x, 0, 3, 1440, 3, 0, 1, 1, -1, 0);
        x = on("size 3 2;row 9 5 9;bar a takes 3 chance 1 goes 8 comes 0;at a 1 0 to 1 0;");
        game("wait 1;when sure 16;stop;end;", x, 0, 3, 1440, 2, 0, 1, 0, -1, 0);
        game("wait 1;when sure 15;stop;end;", x, 0, 3, 1440, 3, 0, 1, 0, -1, 0);
        game("wait 1;when gone a 0;stop;end;", x, 0, 3, 1440, 2, 0, 1, 0, -1, 0);
        game("wait 1;when there a 1;stop;end;", x, 0, 3, 1440, 2, 0, 1, 0, -1, 0);
        // STAGE of the day that is played to
        x = on("size 3 2;row 9 5 9;row 0 0 0;stage 0 0 less 5 0 0;");
        game("wait 2;go;", x, 0, 2, 2880, 2, 0, 2, 0, -1, 0);
        game("wait 3;go;", x, 0, 0, 4340, 2, 0, 3, 0, 0, 0);
        for (int k = 0; k < 11; k++) {
            x.pass(9);
        }
        game("wait 9;go;", x, 0, 0, 12980, 2, 0, 9, 0, 0, 0);
        well("day 99 still", x, x.told(3), 99);
    }

    private static int nextDraw(int s) {
        return (s * 3541 + 8713) % 65536;
    }

    /**
     * By 6 it is gone for certain (two days are waited), by 3 it is there (one), else neither, but
     * with poles that are always or never right: those tell 5 from 4.
     */
    private static void playedReadings() {
        String text = "size 3 2;row 9 5 9;bar a takes 1 chance 8 goes 0 comes 0;at a 1 0 to 1 0;pole ";
        int[] poles = {0, 5, 12, 15, 16};
        for (int pole : poles) {
            PoleRiver x = null;
            for (int seed = 0; seed < 200; seed++) {
                if (seed % 50 == 0) {
                    x = on(text + pole + ";");
                    rule(x, "sound a;when there a 16;wait 1;end;when gone a 0;wait 2;end;");
                }
                int s = nextDraw(seed);
                boolean there = s / 8 % 1000 >= 500;
                int drawn = nextDraw(s) / 8 % 32;
                int more = drawn < 2 * pole ? 0 : drawn < 16 + pole ? 1 : -1;
                int due = more == 1 && !there ? 2 : more == -1 && there ? 1 : 0;
                if (pole == 0 || pole == 16) {
                    due = there ? 1 : 2;
                }
                x.play(0, 2, seed);
                due("days by pole " + pole + " seed " + seed, x.played(3), due);
                due("TRUE by pole " + pole + " seed " + seed, x.played(4), there ? 1 : 0);
            }
        }
    }

    private static void playedColours() {
        String text = "size 3 2;row 9 5 9;bar a takes 1 chance 8 goes 0 comes 0;at a 1 0 to 1 0;colour ";
        int[] colours = {0, 5, 9, 12, 16};
        for (int colour : colours) {
            PoleRiver x = on(text + colour + ";");
            rule(x, "colour a;when there a 9;wait 1;end;");
            for (int seed = 0; seed < 100; seed++) {
                int s = nextDraw(seed);
                boolean there = s / 8 % 1000 >= 500;
                boolean right = nextDraw(s) / 8 % 16 < colour;
                boolean likelier = there == right == colour > 8;
                x.play(0, 2, seed);
                due("days by colour " + colour + " seed " + seed, x.played(3), likelier ? 1 : 0);
                due("no SOUNDING", x.played(2), 0);
            }
        }
    }

    /** What is TRUE behind 81 days from seed 0, by draws of its own. */
    private static int trueBehind81Days() {
        int s = 8713;
        int is = 0;
        int[] goes = {4, 2};
        int[] comes = {4, 0};
        for (int day = 0; day < 81; day++) {
            for (int b = 0; b < 2; b++) {
                s = nextDraw(s);
                if (s / 8 % 16 < ((is >> b & 1) == 1 ? goes[b] : comes[b])) {
                    is ^= 1 << b;
                }
            }
        }
        return is;
    }

    // Promise 45
    private static void tallies() {
        PoleRiver x = on(FORK);
        rule(x, "go;");
        int[] due = new int[4];
        for (int seed = 100; seed < 130; seed++) {
            due[x.play(0, 2, seed)]++;
        }
        due("some are THROUGH", due[0] > 0, true);
        due("some have STRUCK", due[1] > 0, true);
        for (int how = 0; how < 4; how++) {
            well("tally " + how, x, x.tally(0, 2, 100, 30, how), due[how]);
        }
        x.play(0, 2, 4);
        well("seed 0", x, x.tally(0, 2, 0, 1, 0), 1);
        well("played() is of play() alone", x, x.played(0), 130);
        well("one seed", x, x.tally(0, 2, 4, 1, 1), 1);
        none("no CELL", x, x.tally(6, 2, 0, 1, 0), 1);
        none("no end", x, x.tally(0, -1, 0, 1, 0), 1);
        none("seed below 0", x, x.tally(0, 2, -1, 1, 0), 1);
        none("seed above", x, x.tally(0, 2, 10000, 1, 0), 1);
        none("no seeds", x, x.tally(0, 2, 0, 0, 0), 1);
        none("31 seeds", x, x.tally(0, 2, 0, 31, 0), 1);
        none("how -1", x, x.tally(0, 2, 0, 1, -1), 1);
        none("how 4", x, x.tally(0, 2, 0, 1, 4), 1);
        none("the last above", x, x.tally(0, 2, 9999, 2, 0), 1);
        due("the last of all", x.tally(0, 2, 9970, 30, 3), 0);
        well("the last seed alone", x, x.tally(0, 2, 9999, 1, 3), 0);
        for (int seed = 0; seed < 30; seed++) {
            int struck = (x.play(0, 2, seed) == 1 ? 1 : 0) + (x.play(0, 2, seed + 1) == 1 ? 1 : 0);
            well("one behind the other " + seed, x, x.tally(0, 2, seed, 2, 1), struck);
        }
    }

    // Promises 46, 47
    private static void backToMarks() {
        PoleRiver x = on(FORK);
        rule(x, "wait 1;");
        well("first MARK", x, x.mark(), 1);
        x.sound(1, 5);
        x.pass(2);
        x.off(2);
        rule(x, "wait 2;");
        well("second", x, x.mark(), 2);
        river(x, "size 2 2;");
        rule(x, "wait 3;");
        well("third", x, x.mark(), 3);
        none("a fourth", x, x.mark(), 4);
        river(x, "size 5 5;");
        well("to the third", x, x.back(), 2);
        well("its RIVER", x, x.told(0), 2);
        x.play(0, 0, 0);
        well("its RULE", x, x.played(3), 3);
        well("to the second", x, x.back(), 1);
        well("its RIVER", x, x.told(0), 3);
        well("its day", x, x.told(3), 2);
        well("its OFF", x, x.told(4), 2);
        x.play(0, 0, 0);
        well("its RULE", x, x.played(3), 2);
        well("a MARK again", x, x.mark(), 2);
        well("back to it", x, x.back(), 1);
        well("to the first", x, x.back(), 0);
        well("its day", x, x.told(3), 0);
        well("its OFF", x, x.told(4), 0);
        well("its THOUGHT", x, x.part(1), 375000);
        x.play(0, 0, 0);
        well("its RULE", x, x.played(3), 1);
        none("no MARK left", x, x.back(), 6);
        x.mark();
        x.pass(1);
        x.mark();
        x.pass(1);
        x.back();
        well("to the latest", x, x.told(3), 1);
        rule(x, "sound b;");
        due("the names of the RIVER that is back", x.fault(0), 0);
    }

    /** A RULE keeps the numbers of its BARS when another RIVER is taken. */
    private static void foreignRule() {
        PoleRiver x = on(FORK);
        rule(x, "sound b;colour b;when there b 0;stop;end;when gone b 16;stop;end;go;");
        river(x, "size 3 2;row 9 5 9;row 0 0 0;bar c takes 3 chance 0 goes 0 comes 0;at c 1 0 to 1 0;");
        well("what there is not does nothing", x, x.play(0, 2, 0), 0);
        int[] due = {20, 5, 0, 0, 0, 1, 0};
        int[] all = played(x);
        for (int k = 0; k < 7; k++) {
            due("foreign played(" + k + ")", all[k], due[k]);
        }
        rule(x, "sound c;go;");
        river(x, "size 3 2;row 9 9 9;row 0 0 0;bar z takes 3 chance 0 goes 0 comes 0;");
        well("a BAR without CELLS is not sounded", x, x.play(0, 2, 0), 0);
        well("no minutes for it", x, x.played(0), 20);
        well("a STEP all the same", x, x.played(1), 2);
        none("its name is none now", x, rule(x, "sound c;"), 9);
        due("FAULT 3", x.fault(0), 3);
    }
}
