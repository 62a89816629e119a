/**
 * Each sentence of the document on TRAYS, the tape, the RIVER's text and the RULE's that names a
 * boundary case, with a test of its own (Terms 1 and 4, promises 5 to 12).
 */
public final class TextBoundaries extends Due {
    private static final String SIZE = "size 3 2;";
    private static final String BAR = "bar a takes 1 chance 1 goes 1 comes 1;";
    private static final String[] RESERVED = {"size", "row", "bar", "takes", "chance", "goes", "comes", "at",
        "to", "stage", "less", "boat", "draft", "load", "straight", "slant", "turn", "lost", "pole", "colour"};
    private static final int LEAST = Integer.MIN_VALUE;
    private static final int MOST = Integer.MAX_VALUE;

    public static void main(String[] args) {
        terms(1);
        traysMissingAtFirst();
        noSuchTrays();
        placesOfATray();
        sortsWrapAround();
        nineHundredBytes();
        tokensGoAsLongAsTheyCan();
        eachByte();
        digitsOfANumber();
        lettersOfAName();
        wordsThatAreNoNames();
        widthAndHeight();
        depthsOfARow();
        fiveBars();
        whatABarTakes();
        sixteenthsOfABar();
        cornersOfAt();
        cellsOfOneBarAtMost();
        daysOfStage();
        boatsWithoutAText();
        draftsOfABoat();
        loadsBelowDraft();
        minutesOfABoat();
        turnsOfABoat();
        lossesOfABoat();
        poles();
        colours();
        faultsOne();
        faultsTwo();
        faultsThree();
        faultsFour();
        faultsFive();
        faultsSix();
        faultsSeven();
        firstFaultAlongTheText();
        leastFaultOfOneToken();
        riverInPlaceOfThatAhead();
        terms(4);
        ruleOfThreeHundredBytes();
        emptyRuleAtFirst();
        namesOfARule();
        numbersOfARule();
        endsOfARule();
        thirtySteps();
        threeWithinOneAnother();
        faultsOfARuleInOrder();
        promise(5);
        trayLaidAnew();
        promise(6);
        writesInOrder();
        promise(7);
        readsInOrder();
        promise(8);
        poursAsked();
        poursThatOverlap();
        poursOfNone();
        promise(9);
        feedsToTheFull();
        feedsHighestByteFirst();
        promise(10);
        firstBytesOfTheTape();
        bytesThatTheTapeHasNot();
        oldRiverStays();
        promise(11);
        firstBytesForARule();
        aboveThreeHundred();
        oldRuleStays();
        promise(12);
        faultOfTheLatest();
        faultOfOthers();
        allTested(5, 12);
        finish();
    }

    // ---- Terms 1: TRAYS

    private static void traysMissingAtFirst() {
        says("TRAYS 0 to 3 are MISSING at first");
        PoleRiver x = new PoleRiver();
        for (int t = 0; t < 4; t++) {
            none("read " + t, x, x.read(t, 0), 2);
            refused("write " + t, x, x.write(t, 0, 1L), 2);
            refused("pour " + t, x, x.pour(t, 0, t, 0, 0), 2);
        }
        agreed("tray 3", x, x.tray(3, 0, 1));
        none("tray 2 is MISSING still", x, x.read(2, 0), 2);
    }

    private static void noSuchTrays() {
        says("TRAYS 0 to 3");
        PoleRiver x = new PoleRiver();
        x.tray(0, 0, 1);
        for (int t : new int[] {-1, 4, LEAST, MOST}) {
            refused("tray " + t, x, x.tray(t, 0, 1), 1);
            refused("write " + t, x, x.write(t, 0, 1L), 1);
            none("read " + t, x, x.read(t, 0), 1);
            refused("pour from " + t, x, x.pour(t, 0, 0, 0, 1), 1);
            refused("pour to " + t, x, x.pour(0, 0, t, 0, 1), 1);
        }
        for (int t = 0; t < 4; t++) {
            agreed("tray " + t, x, x.tray(t, 0, 1));
        }
    }

    private static void placesOfATray() {
        says("rows of 0 to 60 numbers");
        PoleRiver x = new PoleRiver();
        for (int many : new int[] {-1, 61, LEAST, MOST}) {
            refused("many " + many, x, x.tray(0, 3, many), 1);
            none("MISSING still", x, x.read(0, 0), 2);
        }
        agreed("many 0", x, x.tray(0, 3, 0));
        none("no place in it", x, x.read(0, 0), 3);
        agreed("many 60", x, x.tray(0, 3, 60));
        for (int k = 0; k < 60; k++) {
            agreed("write " + k, x, x.write(0, k, 1000L + k));
        }
        for (int k = 0; k < 60; k++) {
            well("read " + k, x, x.read(0, k), 1000L + k);
        }
        refused("write 60", x, x.write(0, 60, 1L), 3);
        none("read 60", x, x.read(0, 60), 3);
    }

    private static void sortsWrapAround() {
        says("numbers of 8 bits (sort 0), 16 (1), 32 (2) or 64 (3)");
        PoleRiver x = new PoleRiver();
        for (int sort : new int[] {-1, 4, LEAST, MOST}) {
            refused("sort " + sort, x, x.tray(0, sort, 1), 1);
        }
        int[] bits = {8, 16, 32, 64};
        for (int sort = 0; sort < 4; sort++) {
            long greatest = Long.MAX_VALUE >> 64 - bits[sort];
            long least = -greatest - 1;
            agreed("sort " + sort, x, x.tray(0, sort, 1));
            wraps(x, sort, greatest, greatest);
            wraps(x, sort, greatest + 1, least);
            wraps(x, sort, least, least);
            wraps(x, sort, least - 1, greatest);
            wraps(x, sort, -1L, -1L);
            wraps(x, sort, Long.MAX_VALUE, sort == 3 ? Long.MAX_VALUE : -1L);
            wraps(x, sort, Long.MIN_VALUE, sort == 3 ? Long.MIN_VALUE : 0L);
            if (sort < 3) {
                wraps(x, sort, (1L << bits[sort]) - 1, -1L);
                wraps(x, sort, 1L << bits[sort], 0L);
            }
        }
    }

    private static void wraps(PoleRiver x, int sort, long written, long due) {
        agreed("write " + written, x, x.write(0, 0, written));
        well("sort " + sort + " of " + written, x, x.read(0, 0), due);
    }

    // ---- Terms 1: the text of a RIVER

    private static void nineHundredBytes() {
        says("A RIVER is a TEXT of at most 900 bytes");
        PoleRiver x = new PoleRiver();
        String last = "pole 3;";
        well("900 bytes", x, river(x, SIZE + " ".repeat(900 - SIZE.length() - last.length()) + last), 6);
        well("the last PART of them", x, x.told(11), 3);
        riverFault(SIZE + " ".repeat(900 - SIZE.length() - 1) + "#", 1, 899);
        riverFault(SIZE + " ".repeat(900 - SIZE.length() - 6) + "pole 3", 2, 900);
    }

    private static void tokensGoAsLongAsTheyCan() {
        says("TOKENS, as long as they go, between them blanks (10, 32)");
        riverFault("size 33 2;", 4, 5);
        riverFault("sizes 3 2;", 2, 0);
        riverFault("siz e 3 2;", 2, 0);
        riverFault("size 3 2;pole 1 6;", 2, 16);
        PoleRiver x = on("\n\n size3\n2 ;pole16;");
        well("between unlike TOKENS none is needed", x, x.told(11), 16);
        x = on("size\n3\n2\n;\npole\n16\n;\n");
        well("each may stand by itself", x, x.told(11), 16);
    }

    /** Behind the size each byte can be a blank, begin a WORD, a NUMBER or ; that can't stand there, or nothing. */
    private static void eachByte() {
        says("WORDS (small letters), NUMBERS (1 to 4 digits), the SIGN ;");
        for (int c = 0; c < 256; c++) {
            PoleRiver x = new PoleRiver();
            boolean blank = c == 10 || c == 32;
            boolean token = c >= 97 && c <= 122 || c >= 48 && c <= 57 || c == 59;
            due("byte " + c, river(x, SIZE + (char) c), blank ? 6 : -1);
            due("fault of byte " + c, x.fault(0), blank ? 0 : token ? 2 : 1);
            due("place of byte " + c, x.fault(1), blank ? -1 : 9);
        }
    }

    private static void digitsOfANumber() {
        says("NUMBERS (1 to 4 digits)");
        on("size 3 2;boat draft 0004 load 0000 straight 0010 slant 0014 turn 0001 lost 0999;");
        on("size 003 02;");
        riverFault("size 00003 2;", 1, 5);
        riverFault("size 3 10000;", 1, 7);
        riverFault("size 3 9999;", 4, 7);
        riverFault("size 3 123456789012345678901234567890;", 1, 7);
        riverFault("size 3 2 12345", 1, 9);
    }

    private static void lettersOfAName() {
        says("NAME: a WORD of 1 to 8 letters");
        String rest = " takes 1 chance 1 goes 1 comes 1;";
        for (String name : new String[] {"z", "abcdefgh", "zzzzzzzz"}) {
            PoleRiver x = on(SIZE + "bar " + name + rest + "at " + name + " 0 0 to 0 0;");
            well("a BAR named " + name, x, x.barOf(0), 0);
        }
        for (String name : new String[] {"abcdefghi", "abcdefghij", "straights", "z".repeat(40), "a".repeat(64)}) {
            riverFault(SIZE + "bar " + name + rest, 2, 13);
            riverFault(SIZE + BAR + "at " + name + " 0 0 to 0 0;", 2, 50);
        }
        // names that begin alike, or end alike, are not one
        PoleRiver x = on(SIZE + "bar a" + rest + "bar aa" + rest + "bar ab" + rest + "bar ba" + rest + "bar b" + rest
                + "at ab 0 0 to 0 0;at b 1 0 to 1 0;at aa 2 0 to 2 0;");
        well("ab", x, x.barOf(0), 2);
        well("b", x, x.barOf(1), 4);
        well("aa", x, x.barOf(2), 1);
    }

    private static void wordsThatAreNoNames() {
        says("that is none of size, row, bar, takes, chance, goes, comes, at, to, stage, less, boat, draft, load, "
                + "straight, slant, turn, lost, pole, colour");
        for (String word : RESERVED) {
            riverFault(SIZE + "bar " + word + " takes 1 chance 1 goes 1 comes 1;", 2, 13);
            riverFault(SIZE + BAR + "at " + word + " 0 0 to 0 0;", 2, 50);
            String less = word.substring(1);
            on(SIZE + "bar " + less + " takes 1 chance 1 goes 1 comes 1;");
        }
        for (String word : new String[] {"sound", "wait", "off", "when", "there", "gone", "sure", "loop", "end", "go",
            "stop", "day", "part", "rows", "sizes"}) {
            on(SIZE + "bar " + word + " takes 1 chance 1 goes 1 comes 1;");
        }
    }

    private static void widthAndHeight() {
        says("so many CELLS wide (2 to 10) and high (2 to 6)");
        for (int w = 0; w < 13; w++) {
            for (int h = 0; h < 9; h++) {
                String text = "size " + w + " " + h + ";";
                if (w < 2 || w > 10) {
                    riverFault(text, 4, 5);
                } else if (h < 2 || h > 6) {
                    riverFault(text, 4, w < 10 ? 7 : 8);
                } else {
                    PoleRiver x = new PoleRiver();
                    well(text, x, river(x, text), w * h);
                    well("the last CELL of it", x, x.depth(w * h - 1, 0), 0);
                    none("and none behind it", x, x.depth(w * h, 0), 1);
                }
            }
        }
    }

    private static void depthsOfARow() {
        says("row k tells the steps of depth of CELLS 0, k to the last (0 to 20; 0 where no row is told)");
        PoleRiver x = on(SIZE + "row 0 20 1;");
        well("0", x, x.depth(0, 0), 0);
        well("20", x, x.depth(1, 0), 20);
        well("the last of the row", x, x.depth(2, 0), 1);
        for (int cell = 3; cell < 6; cell++) {
            well("no row is told of " + cell, x, x.depth(cell, 0), 0);
        }
        x = on(SIZE + "row 1 2 3;pole 1;row 4 5 6;");
        well("the second row is row 1", x, x.depth(3, 0), 4);
        riverFault(SIZE + "row 21 1 1;", 4, 13);
        riverFault(SIZE + "row 1 1 21;", 4, 17);
        x = on("size 10 6;" + "row 1 2 3 4 5 6 7 8 9 10;".repeat(6));
        well("the last CELL of the greatest", x, x.depth(59, 0), 10);
    }

    private static void fiveBars() {
        says("BARS, at most 5, numbered as they stand");
        StringBuilder text = new StringBuilder(SIZE);
        for (int k = 0; k < 5; k++) {
            text.append(BAR.replace("bar a", "bar " + "edcba".charAt(k)).replace("takes 1", "takes " + (k + 3)));
            PoleRiver x = on(text.toString());
            well("BARS", x, x.told(2), k + 1);
            well("takes", x, x.bar(k, 0), k + 3);
            none("no BAR behind it", x, x.bar(k + 1, 0), 1);
        }
        riverFault(text + "bar f takes 1 chance 1 goes 1 comes 1;", 6, text.length());
        PoleRiver none = on(SIZE);
        well("none", none, none.told(2), 0);
    }

    private static void whatABarTakes() {
        says("TAKES so many steps (1 to 9) of depth");
        for (int takes = 0; takes < 12; takes++) {
            String text = SIZE + BAR.replace("takes 1", "takes " + takes);
            if (takes < 1 || takes > 9) {
                riverFault(text, 4, 21);
            } else {
                PoleRiver x = on(text);
                well(text, x, x.bar(0, 0), takes);
            }
        }
    }

    private static void sixteenthsOfABar() {
        says("with so many sixteenths (0 to 16 each)");
        String[] words = {"chance", "goes", "comes"};
        for (int k = 0; k < 3; k++) {
            for (int n : new int[] {0, 1, 15, 16}) {
                PoleRiver x = on(SIZE + BAR.replace(words[k] + " 1", words[k] + " " + n));
                well(words[k], x, x.bar(0, k + 1), n);
            }
            for (int n : new int[] {17, 18, 99, 9999}) {
                String text = SIZE + BAR.replace(words[k] + " 1", words[k] + " " + n);
                riverFault(text, 4, text.indexOf(words[k]) + words[k].length() + 1);
            }
        }
    }

    private static void cornersOfAt() {
        says("CELLS from x, y to x, y (the second not below the first) are of a BAR");
        PoleRiver x = on(SIZE + BAR + "at a 2 1 to 2 1;");
        well("one CELL", x, x.bar(0, 4), 1);
        well("the last", x, x.bar(0, 5), 5);
        x = on(SIZE + BAR + "at a 0 0 to 2 1;");
        well("all CELLS", x, x.bar(0, 4), 6);
        well("from the first", x, x.bar(0, 5), 0);
        x = on(SIZE + BAR + "at a 1 0 to 1 1;");
        well("a column", x, x.bar(0, 4), 2);
        none("beside it", x, x.barOf(0), 6);
        String at = SIZE + BAR + "at a ";
        int n = at.length();
        riverFault(at + "1 0 to 0 0;", 4, n + 7);
        riverFault(at + "2 0 to 1 1;", 4, n + 7);
        riverFault(at + "0 1 to 2 0;", 4, n + 9);
        riverFault(at + "3 0 to 2 0;", 4, n);
        riverFault(at + "0 2 to 2 0;", 4, n + 2);
        riverFault(at + "0 0 to 3 1;", 4, n + 7);
        riverFault(at + "0 0 to 2 2;", 4, n + 9);
    }

    private static void cellsOfOneBarAtMost() {
        says("each CELL of one at most");
        String two = SIZE + BAR + BAR.replace("bar a", "bar b");
        PoleRiver x = on(two + "at a 0 0 to 1 0;at b 0 1 to 1 1;at a 2 1 to 2 1;at b 2 0 to 2 0;");
        well("side by side", x, x.bar(0, 4), 3);
        well("all are of one", x, x.bar(1, 4), 3);
        String taken = two + "at a 1 1 to 1 1;";
        riverFault(taken + "at b 1 1 to 1 1;", 5, taken.length() + 14);
        riverFault(taken + "at a 1 1 to 1 1;", 5, taken.length() + 14);
        riverFault(taken + "at b 0 0 to 2 1;", 5, taken.length() + 14);
        riverFault(taken + "at b 0 0 to 1 1;", 5, taken.length() + 14);
        riverFault(taken + "at b 1 0 to 2 1;", 5, taken.length() + 14);
        on(taken + "at b 0 0 to 2 0;");
        on(taken + "at b 0 1 to 0 1;at b 2 1 to 2 1;");
    }

    private static void daysOfStage() {
        says("(0 to 9, or less, 0 to 9 less; at most 12 DAYS; 0 on later ones and without)");
        PoleRiver x = on(SIZE + "stage 0 9 less 0 less 9 1 less 1 2 less 2 3 less 3 4 less 4;");
        int[] due = {0, 9, 0, -9, 1, -1, 2, -2, 3, -3, 4, -4, 0, 0};
        for (int day = 0; day < due.length; day++) {
            well("stage of day " + day, x, x.stage(day), due[day]);
        }
        x = on(SIZE + "stage 7;");
        well("the one DAY", x, x.stage(0), 7);
        well("a later one", x, x.stage(1), 0);
        x = on(SIZE);
        well("without", x, x.stage(0), 0);
        riverFault(SIZE + "stage 10;", 4, 15);
        riverFault(SIZE + "stage less 10;", 4, 20);
        String twelve = SIZE + "stage" + " 1".repeat(12);
        on(twelve + ";");
        riverFault(twelve + " 1;", 6, twelve.length() + 1);
        riverFault(SIZE + "stage;", 2, 14);
        riverFault(SIZE + "stage less;", 2, 19);
    }

    private static void boatsWithoutAText() {
        says("BOAT (without: draft 4, load 0, straight 10, slant 14, turn 1, lost 120)");
        PoleRiver x = on(SIZE);
        int[] due = {4, 0, 10, 14, 1, 120};
        for (int k = 0; k < 6; k++) {
            well("told " + (k + 5), x, x.told(k + 5), due[k]);
        }
    }

    private static String boat(int draft, int load, int straight, int slant, int turn, int lost) {
        return SIZE + "boat draft " + draft + " load " + load + " straight " + straight + " slant " + slant + " turn "
                + turn + " lost " + lost + ";";
    }

    private static void boatTold(String text, int what, int due) {
        PoleRiver x = on(text);
        well(text, x, x.told(what), due);
    }

    private static void boatFault(String text, String word) {
        riverFault(text, 4, text.indexOf(word) + word.length() + 1);
    }

    private static void draftsOfABoat() {
        says("DRAFT in steps (1 to 20)");
        boatTold(boat(1, 0, 10, 10, 1, 1), 5, 1);
        boatTold(boat(20, 0, 10, 10, 1, 1), 5, 20);
        boatFault(boat(0, 0, 10, 10, 1, 1), "draft");
        boatFault(boat(21, 0, 10, 10, 1, 1), "draft");
    }

    private static void loadsBelowDraft() {
        says("LOAD (0 to 9, below DRAFT)");
        for (int draft = 1; draft <= 20; draft++) {
            for (int load = 0; load <= 11; load++) {
                String text = boat(draft, load, 10, 10, 1, 1);
                if (load <= 9 && load < draft) {
                    boatTold(text, 6, load);
                } else {
                    boatFault(text, "load");
                }
            }
        }
    }

    private static void minutesOfABoat() {
        says("minutes straight, slant (1 to 99 each)");
        for (int n : new int[] {1, 99}) {
            boatTold(boat(4, 0, n, 10, 1, 1), 7, n);
            boatTold(boat(4, 0, 10, n, 1, 1), 8, n);
        }
        for (int n : new int[] {0, 100}) {
            boatFault(boat(4, 0, n, 10, 1, 1), "straight");
            boatFault(boat(4, 0, 10, n, 1, 1), "slant");
        }
    }

    private static void turnsOfABoat() {
        says("for each eighth of a TURN (0 to 99)");
        boatTold(boat(4, 0, 10, 10, 0, 1), 9, 0);
        boatTold(boat(4, 0, 10, 10, 99, 1), 9, 99);
        boatFault(boat(4, 0, 10, 10, 100, 1), "turn");
    }

    private static void lossesOfABoat() {
        says("LOST (0 to 999)");
        boatTold(boat(4, 0, 10, 10, 1, 0), 10, 0);
        boatTold(boat(4, 0, 10, 10, 1, 999), 10, 999);
        boatFault(boat(4, 0, 10, 10, 1, 1000), "lost");
    }

    private static void poles() {
        says("POLE: right with so many of sixteen (0 to 16; 12 without)");
        for (int n : new int[] {0, 16}) {
            boatTold(SIZE + "pole " + n + ";", 11, n);
        }
        boatTold(SIZE, 11, 12);
        riverFault(SIZE + "pole 17;", 4, 14);
    }

    private static void colours() {
        says("COLOUR likewise (11 without)");
        for (int n : new int[] {0, 16}) {
            boatTold(SIZE + "colour " + n + ";", 12, n);
        }
        boatTold(SIZE, 12, 11);
        riverFault(SIZE + "colour 17;", 4, 16);
    }

    // ---- Terms 1: FAULTS

    private static void faultsOne() {
        says("1 no TOKEN begins so (a NUMBER of 5 digits and more: at its first)");
        riverFault("#", 1, 0);
        riverFault("  \n#size", 1, 3);
        riverFault("size#3 2;", 1, 4);
        riverFault("size 3 2;row 1 -1 1;", 1, 15);
        riverFault("size 3 2;row 1 1.5 1;", 1, 16);
        riverFault("size 3 2;bar A takes", 1, 13);
        riverFault("size 3 2;bar aB takes", 1, 14);
        riverFault("size 3 2;row 1 11111 1;", 1, 15);
        riverFault("size 3 2;row 1 1 1 00000;", 1, 19);
    }

    /** A text that ends behind any TOKEN but a ; can't end there. */
    private static void faultsTwo() {
        says("2 it can't stand there (the end: the text's length; a WORD of 9 letters and more where a NAME must stand)");
        String[] tokens = ("size 3 2 ; row 9 9 9 ; bar a takes 1 chance 2 goes 3 comes 4 ; at a 0 0 to 2 1 ; "
                + "stage 1 less 2 ; boat draft 4 load 1 straight 10 slant 14 turn 1 lost 120 ; pole 12 ; colour 11 ;").split(" ");
        StringBuilder text = new StringBuilder();
        boolean whole = false;
        for (String token : tokens) {
            if (!whole) {
                riverFault(text.toString(), 2, text.length());
                riverFault(text + "  ", 2, text.length() + 2);
            } else {
                on(text.toString());
            }
            // a ; may stand where one stands, and behind a DAY, though another one follows it
            if (!token.equals(";") && !text.toString().endsWith("stage 1")) {
                riverFault(text + " ;", endOfRow(text), text.length() + 1);
            }
            riverFault(text + " abcdefghi", 2, text.length() + 1);
            text.append(' ').append(token);
            whole = token.equals(";");
        }
        on(text.toString());
        riverFault(SIZE + "3", 2, 9);
        riverFault(SIZE + "size 3 2;", 2, 9);
        riverFault(SIZE + "less 1;", 2, 9);
    }

    /** The FAULT of a ; behind this: 7 in a row that has begun, else 2. */
    private static int endOfRow(CharSequence text) {
        return text.toString().matches(".*row( 9)+") ? 7 : 2;
    }

    private static void faultsThree() {
        says("3 a bar's NAME that a BAR has already; at with one that is no BAR told ahead");
        riverFault(SIZE + BAR + "bar a takes 1 chance 1 goes 1 comes 1;", 3, 51);
        riverFault(SIZE + BAR + "bar a", 3, 51);
        riverFault(SIZE + BAR + BAR.replace("bar a", "bar b") + "bar a", 3, 89);
        riverFault(SIZE + BAR + "at b 0 0 to 0 0;", 3, 50);
        riverFault(SIZE + "at a 0 0 to 0 0;" + BAR, 3, 12);
        riverFault(SIZE + BAR + "at aa 0 0 to 0 0;", 3, 50);
        PoleRiver x = on(SIZE + BAR);
        none("a BAR of the RIVER that is there is not told ahead", x, river(x, SIZE + "at a 0 0 to 0 0;"), 9);
        due("its fault", x.fault(0), 3);
    }

    private static void faultsFour() {
        says("4 a NUMBER that can't be");
        riverFault("size 0 2;", 4, 5);
        riverFault("size 1 1;", 4, 5);
        riverFault("size 3 7#", 4, 7);
        riverFault(SIZE + "row 9999", 4, 13);
        riverFault(SIZE + "bar a takes 0 #", 4, 21);
        riverFault(SIZE + BAR + "at a 3 2 to 9 9;", 4, 52);
        riverFault(SIZE + "stage 9 9999", 4, 17);
    }

    private static void faultsFive() {
        says("5 stage, boat, pole, colour told already (at that WORD); at: a CELL of it is of a BAR already (at its last NUMBER)");
        for (String part : new String[] {"stage 1;", "pole 1;", "colour 1;", boat(4, 0, 10, 14, 1, 120).substring(9)}) {
            String word = part.substring(0, part.indexOf(' '));
            String text = SIZE + part + "row 1 1 1;";
            riverFault(text + part, 5, text.length());
            riverFault(text + word, 5, text.length());
            riverFault(text + word + "#", 5, text.length());
        }
        String at = SIZE + BAR + "at a 0 0 to 0 0;";
        riverFault(at + "at a 0 0 to 2 1;", 5, at.length() + 14);
        riverFault(at + "at a 0 0 to 2 01;", 5, at.length() + 14);
        riverFault(at + "at a 0 0 to 2 1", 5, at.length() + 14);
    }

    private static void faultsSix() {
        says("6 a sixth bar, a row too many (at that WORD); a NUMBER too many in a row, a 13th DAY (at it; less: at that)");
        StringBuilder five = new StringBuilder(SIZE);
        for (char c = 'a'; c < 'f'; c++) {
            five.append(BAR.replace("bar a", "bar " + c));
        }
        riverFault(five + "bar f takes", 6, five.length());
        riverFault(five + "bar", 6, five.length());
        riverFault(five + "bar a", 6, five.length());
        on(SIZE + "row 1 1 1;row 1 1 1;");
        riverFault(SIZE + "row 1 1 1;row 1 1 1;row 1 1 1;", 6, 29);
        riverFault(SIZE + "row 1 1 1;row 1 1 1;row", 6, 29);
        riverFault(SIZE + "row 1 1 1 1;", 6, 19);
        riverFault(SIZE + "row 1 1 1 1 1", 6, 19);
        riverFault("size 10 2;row 1 1 1 1 1 1 1 1 1 1 1;", 6, 34);
        String twelve = SIZE + "stage 1 1 1 1 1 1 1 1 1 1 1 1 ";
        riverFault(twelve + "1;", 6, twelve.length());
        riverFault(twelve + "less 1;", 6, twelve.length());
        riverFault(twelve + "less", 6, twelve.length());
        riverFault(twelve.replace(" 1", " less 1") + "1;", 6, twelve.length() + 60);
    }

    private static void faultsSeven() {
        says("7 too few in a row (at the ; )");
        riverFault(SIZE + "row 1 1;", 7, 16);
        riverFault(SIZE + "row 1  ;", 7, 16);
        riverFault("size 10 2;row 1 1 1 1 1 1 1 1 1;", 7, 31);
        riverFault(SIZE + "row 1 1 1;row 1 1 ;", 7, 27);
    }

    private static void firstFaultAlongTheText() {
        says("FAULTS, the first along the text");
        riverFault(SIZE + "row 1 1;row 21 #", 7, 16);
        riverFault(SIZE + "row 1 21 #", 4, 15);
        riverFault(SIZE + "row 1 # 21", 1, 15);
        riverFault("size 3 2;pole 3;pole 17;row #", 5, 16);
        riverFault("size 11 2;#", 4, 5);
        riverFault("size 3 2 #;", 1, 9);
    }

    private static void leastFaultOfOneToken() {
        says("(of one TOKEN the least kind)");
        // a NUMBER too many that can't be; a 13th DAY that can't be
        riverFault(SIZE + "row 1 1 1 21;", 4, 19);
        riverFault(SIZE + "row 1 1 1 12345;", 1, 19);
        riverFault(SIZE + "stage 1 1 1 1 1 1 1 1 1 1 1 1 10;", 4, 39);
        // a ; in a row of none: no NUMBER stands there, and there are too few
        riverFault(SIZE + "row;", 2, 12);
        // the last NUMBER of at: not in the RIVER, and CELLS that are of a BAR
        String at = SIZE + BAR + "at a 0 0 to 2 0;";
        riverFault(at + "at a 0 0 to 2 2;", 4, at.length() + 14);
        // a WORD of 9 letters in place of a NAME that a BAR has
        riverFault(SIZE + BAR + "bar aaaaaaaaa", 2, 51);
    }

    private static void riverInPlaceOfThatAhead() {
        says("A RIVER that is taken is there in place of that ahead; it is day 0, THOUGHT is as at first");
        PoleRiver x = on("size 4 3;row 9 9 9 9;" + BAR + "at a 0 0 to 3 2;stage 1 2 3;"
                + "boat draft 8 load 7 straight 1 slant 2 turn 3 lost 4;pole 5;colour 6;");
        x.pass(3);
        x.off(7);
        well("another one", x, river(x, SIZE + BAR.replace("chance 1", "chance 4")), 6);
        int[] due = {3, 2, 1, 0, 0, 4, 0, 10, 14, 1, 120, 12, 11};
        for (int k = 0; k < due.length; k++) {
            well("told " + k, x, x.told(k), due[k]);
        }
        well("no CELLS of its BAR", x, x.bar(0, 4), 0);
        well("no row", x, x.depth(0, 0), 0);
        well("no STAGE", x, x.stage(1), 0);
        well("THOUGHT", x, x.part(1), 250000);
        ofTheOneAheadOfThat(x);
        well("of one set alone", x, river(x, SIZE), 6);
        none("none with BARS", x, x.part(1), 1);
        well("the empty set", x, x.part(0), 1000000);
    }

    /** Nothing is left of a RIVER two ahead, or of one with a FAULT. */
    private static void ofTheOneAheadOfThat(PoleRiver x) {
        String full = "size 4 3;row 9 9 9 9;" + BAR + "at a 0 0 to 3 2;stage 1 2 3;"
                + "boat draft 8 load 7 straight 1 slant 2 turn 3 lost 4;pole 5;colour 6;";
        String plain = "size 2 2;" + BAR;
        for (int k = 0; k < 4; k++) {
            river(x, k % 2 == 0 ? full : full + "#");
            well("a plain one", x, river(x, plain), 4);
            int[] due = {2, 2, 1, 0, 0, 4, 0, 10, 14, 1, 120, 12, 11};
            for (int what = 0; what < due.length; what++) {
                well("told " + what, x, x.told(what), due[what]);
            }
            well("no CELLS", x, x.bar(0, 4), 0);
            well("no row", x, x.depth(3, 0), 0);
            well("no STAGE", x, x.stage(2), 0);
        }
    }

    // ---- Terms 4: the text of a RULE

    private static final String TWO = SIZE + BAR + BAR.replace("bar a", "bar b");

    private static void ruleOfThreeHundredBytes() {
        says("A RULE is a TEXT of at most 300 bytes");
        ruleTaken(TWO, " ".repeat(297) + "go;", 1);
        ruleFault(TWO, " ".repeat(298) + "go", 2, 300);
        ruleFault(TWO, " ".repeat(299) + "#", 1, 299);
        PoleRiver x = on(TWO);
        none("301", x, rule(x, " ".repeat(298) + "go;"), 1);
    }

    private static void emptyRuleAtFirst() {
        says("(the empty one at first)");
        PoleRiver x = on(TWO);
        well("she LIES", x, x.play(0, 0, 0), 3);
        well("no STEPS", x, x.played(1), 0);
        ruleTaken(TWO, "", 0);
        ruleTaken(TWO, " \n ", 0);
    }

    private static void namesOfARule() {
        says("NAMES are the RIVER's BARS as it is (3 otherwise");
        for (String step : new String[] {"sound ", "colour ", "when there ", "when gone "}) {
            String end = step.startsWith("when") ? " 1;end;" : ";";
            ruleTaken(TWO, step + "a" + end, 1);
            ruleTaken(TWO, step + "b" + end, 1);
            ruleFault(TWO, step + "c" + end, 3, step.length());
            ruleFault(SIZE, step + "a" + end, 3, step.length());
            ruleFault(TWO, step + "aa" + end, 3, step.length());
            ruleFault(TWO, step + "abcdefgh" + end, 3, step.length());
            ruleFault(TWO, step + "abcdefghi" + end, 2, step.length());
            ruleFault(TWO, step + end, 2, step.length() + (end.startsWith(" ") ? 1 : 0));
            for (String word : RESERVED) {
                ruleFault(TWO, step + word + end, 2, step.length());
            }
        }
        PoleRiver x = new PoleRiver();
        none("no RIVER has no BARS", x, rule(x, "sound a;"), 9);
        due("3", x.fault(0), 3);
        x = on(TWO);
        river(x, SIZE + BAR.replace("bar a", "bar c"));
        none("a BAR of the one ahead", x, rule(x, "sound a;"), 9);
        well("a BAR as it is", x, rule(x, "sound c;"), 1);
    }

    private static void numbersOfARule() {
        says("4 a NUMBER that can't be. 6");
        String[] steps = {"wait ", "off ", "loop ", "when sure ", "when there a ", "when gone b "};
        int[] least = {1, 0, 1, 0, 0, 0};
        int[] most = {9, 9, 9, 16, 16, 16};
        for (int k = 0; k < steps.length; k++) {
            String end = k < 2 ? ";" : ";end;";
            for (int n = 0; n < 19; n++) {
                if (n < least[k] || n > most[k]) {
                    ruleFault(TWO, steps[k] + n + end, 4, steps[k].length());
                } else {
                    ruleTaken(TWO, steps[k] + n + end, 1);
                }
            }
            ruleFault(TWO, steps[k] + "9999" + end, 4, steps[k].length());
            ruleFault(TWO, steps[k] + "00001" + end, 1, steps[k].length());
            ruleFault(TWO, steps[k] + end, 2, steps[k].length());
        }
    }

    private static void endsOfARule() {
        says("(an end without a beginning; the text's end ahead of an end: 2)");
        ruleFault(TWO, "end;", 2, 0);
        ruleFault(TWO, "go;end;", 2, 3);
        ruleFault(TWO, "loop 1;end;end;", 2, 11);
        ruleFault(TWO, "loop 1;", 2, 7);
        ruleFault(TWO, "loop 1;  ", 2, 9);
        ruleFault(TWO, "when sure 1;loop 1;end;", 2, 23);
        ruleFault(TWO, "loop 1;end", 2, 10);
        ruleFault(TWO, "loop 1;end go;", 2, 11);
        ruleTaken(TWO, "loop 1;end;", 1);
        ruleTaken(TWO, "loop 1;end;loop 1;end;", 2);
    }

    private static void thirtySteps() {
        says("6 a 31st STEP (at its WORD; end is none)");
        ruleTaken(TWO, "go;".repeat(30), 30);
        ruleFault(TWO, "go;".repeat(31), 6, 90);
        ruleFault(TWO, "go;".repeat(30) + "go", 6, 90);
        ruleFault(TWO, "go;".repeat(30) + " sound zz", 6, 91);
        String loops = "loop 1;".repeat(3) + "go;".repeat(27);
        ruleTaken(TWO, loops + "end;end;end;", 30);
        ruleFault(TWO, loops + "end;end;end;go;", 6, loops.length() + 12);
        ruleFault(TWO, loops + "end;end;go;", 6, loops.length() + 8);
        // as many ends as STEPS, in as many bytes as there may be
        ruleTaken(TWO, "loop1;end;".repeat(30), 30);
        ruleFault(TWO, "loop1;end;".repeat(29) + "go;go;", 6, 293);
    }

    private static void threeWithinOneAnother() {
        says("7 a when, loop within three others (at its WORD)");
        String three = "loop 1;when sure 1;when there a 1;";
        ruleTaken(TWO, three + "go;end;end;end;", 4);
        ruleFault(TWO, three + "loop 1;end;end;end;end;", 7, three.length());
        ruleFault(TWO, three + "when sure 1;end;end;end;end;", 7, three.length());
        ruleFault(TWO, three + "loop", 7, three.length());
        ruleTaken(TWO, three + "end;loop 1;end;end;end;loop 1;end;", 5);
        ruleFault(TWO, three + "end;loop 1;loop 1;", 7, three.length() + 11);
    }

    private static void faultsOfARuleInOrder() {
        says("FAULTS of a RULE: 1, 2 as above");
        ruleFault(TWO, "#", 1, 0);
        ruleFault(TWO, "12345", 1, 0);
        ruleFault(TWO, "5;", 2, 0);
        ruleFault(TWO, ";", 2, 0);
        ruleFault(TWO, "row 1;", 2, 0);
        ruleFault(TWO, "goes;", 2, 0);
        ruleFault(TWO, "sound a 1;", 2, 8);
        ruleFault(TWO, "when loop 1;", 2, 5);
        ruleFault(TWO, "when 1;", 2, 5);
        ruleFault(TWO, "go;# ;loop 99;", 1, 3);
        // of one TOKEN the least kind: a 31st STEP that is too deep, too
        ruleFault(TWO, "go;".repeat(27) + "loop 1;loop 1;loop 1;loop 1;", 6, 102);
    }

    // ---- promises 5 to 8: TRAYS

    private static void trayLaidAnew() {
        says("A TRAY is a row of so many 0s (1).");
        PoleRiver x = new PoleRiver();
        x.tray(0, 3, 3);
        for (int k = 0; k < 3; k++) {
            x.write(0, k, 7L);
        }
        agreed("less of them", x, x.tray(0, 3, 1));
        well("0", x, x.read(0, 0), 0);
        agreed("more again", x, x.tray(0, 3, 3));
        for (int k = 0; k < 3; k++) {
            well("all 0 at " + k, x, x.read(0, k), 0);
        }
        x.write(0, 2, -5L);
        refused("refused", x, x.tray(0, 3, 61), 1);
        refused("refused", x, x.tray(0, 4, 1), 1);
        well("leaves it", x, x.read(0, 2), -5);
    }

    private static void writesInOrder() {
        says("A number comes to a place of a TRAY, cut to its sort (1, 2, 3).");
        PoleRiver x = new PoleRiver();
        x.tray(0, 3, 2);
        refused("no TRAY, no place", x, x.write(4, -1, 0L), 1);
        refused("MISSING, no place", x, x.write(1, -1, 0L), 2);
        for (int place : new int[] {-1, 2, LEAST, MOST}) {
            refused("place " + place, x, x.write(0, place, 9L), 3);
        }
        well("nothing is written", x, x.read(0, 0) + x.read(0, 1), 0);
        agreed("the first", x, x.write(0, 0, 1L));
        agreed("the last", x, x.write(0, 1, 2L));
        well("the first", x, x.read(0, 0), 1);
        well("the last", x, x.read(0, 1), 2);
    }

    private static void readsInOrder() {
        says("The number in a place of a TRAY; STATUS tells NONE from -1 (1, 2, 3).");
        PoleRiver x = new PoleRiver();
        x.tray(0, 0, 2);
        x.write(0, 1, -1L);
        well("-1 is no NONE", x, x.read(0, 1), -1);
        none("no TRAY, no place", x, x.read(-1, -1), 1);
        none("MISSING, no place", x, x.read(1, -1), 2);
        for (int place : new int[] {-1, 2, LEAST, MOST}) {
            none("place " + place, x, x.read(0, place), 3);
        }
    }

    private static void poursAsked() {
        says("(1: below 0, too; 2; 8; 3; asked in this order)");
        PoleRiver x = new PoleRiver();
        x.tray(0, 0, 5);
        x.tray(1, 1, 5);
        x.tray(2, 0, 3);
        refused("1 ahead of 2: from", x, x.pour(4, 0, 3, 0, 1), 1);
        refused("1 ahead of 2: to", x, x.pour(3, 0, 4, 0, 1), 1);
        refused("place below 0 ahead of 2", x, x.pour(3, -1, 0, 0, 1), 1);
        refused("at below 0 ahead of 2", x, x.pour(3, 0, 0, -1, 1), 1);
        refused("many below 0 ahead of 2", x, x.pour(3, 0, 0, 0, -1), 1);
        refused("many below 0 ahead of 8", x, x.pour(0, 0, 1, 0, LEAST), 1);
        refused("place below 0 ahead of 8", x, x.pour(0, LEAST, 1, 0, 1), 1);
        refused("at below 0 ahead of 8", x, x.pour(0, 0, 1, LEAST, 1), 1);
        refused("2 ahead of 3: from", x, x.pour(3, 9, 0, 9, 9), 2);
        refused("2 ahead of 3: to", x, x.pour(0, 9, 3, 9, 9), 2);
        refused("8 ahead of 3", x, x.pour(0, 9, 1, 9, 9), 8);
        refused("8", x, x.pour(0, 0, 1, 0, 1), 8);
        refused("8 for none", x, x.pour(0, 0, 1, 0, 0), 8);
        refused("3 from", x, x.pour(2, 1, 0, 0, 3), 3);
        refused("3 to", x, x.pour(0, 0, 2, 1, 3), 3);
        refused("3 from its place", x, x.pour(2, 3, 0, 0, 1), 3);
        refused("3 to its place", x, x.pour(0, 0, 2, 3, 1), 3);
        refused("3 by numbers whose sum wraps around", x, x.pour(0, MOST, 2, 0, 1), 3);
        refused("3 by many that wraps around", x, x.pour(0, 1, 2, 0, MOST), 3);
        refused("3 by at that wraps around", x, x.pour(0, 0, 2, MOST, MOST), 3);
        agreed("all of them", x, x.pour(2, 0, 0, 2, 3));
    }

    private static void poursThatOverlap() {
        says("come to another one's (or its own) place on, as they were");
        for (int at = 0; at < 4; at++) {
            for (int place = 0; place < 4; place++) {
                PoleRiver x = new PoleRiver();
                lay(x, 0, 2, 10, 11, 12, 13, 14, 15);
                agreed("from " + place + " to " + at, x, x.pour(0, place, 0, at, 3));
                for (int k = 0; k < 6; k++) {
                    long due = k >= at && k < at + 3 ? 10 + place + k - at : 10 + k;
                    well("from " + place + " to " + at + " at " + k, x, x.read(0, k), due);
                }
            }
        }
    }

    private static void poursOfNone() {
        says("So many numbers of a TRAY, from a place on");
        PoleRiver x = new PoleRiver();
        lay(x, 0, 1, 1, 2, 3);
        lay(x, 1, 1, 4, 5);
        x.tray(2, 1, 0);
        agreed("none", x, x.pour(0, 0, 1, 0, 0));
        agreed("none from the end to the end", x, x.pour(0, 3, 1, 2, 0));
        agreed("none of an empty TRAY", x, x.pour(2, 0, 2, 0, 0));
        refused("one of an empty TRAY", x, x.pour(2, 0, 1, 0, 1), 3);
        refused("one to an empty TRAY", x, x.pour(1, 0, 2, 0, 1), 3);
        well("nothing has come", x, x.read(1, 0), 4);
        agreed("one, the last to the last", x, x.pour(0, 2, 1, 1, 1));
        well("it has come", x, x.read(1, 1), 3);
        well("the one ahead of it stays", x, x.read(1, 0), 4);
    }

    // ---- promises 9 to 12: the tape

    private static final int BLANKS = 0x20202020;

    private static void feedsToTheFull() {
        says("how many it has; NONE if there would be more than 900");
        PoleRiver x = new PoleRiver();
        feed(x, SIZE + "pole 1;");
        for (int k = 2; k <= 45; k++) {
            due("feed " + k, x.feed(BLANKS, BLANKS, BLANKS, BLANKS, BLANKS), 20 * k);
        }
        due("one more", x.feed(0, 0, 0, 0, 0), -1);
        due("and one more", x.feed(0, 0, 0, 0, 0), -1);
        due("no STATUS of it", x.status(), 0);
        none("901 of them", x, x.river(901), 1);
        due("still full", x.feed(0, 0, 0, 0, 0), -1);
        feedBehind(x);
    }

    private static void feedBehind(PoleRiver x) {
        none("all 900, four of them 0", x, x.river(900), 9);
        due("the first 0", x.fault(1), 16);
        due("empty again", x.feed(BLANKS, BLANKS, BLANKS, BLANKS, BLANKS), 20);
    }

    private static void feedsHighestByteFirst() {
        says("Twenty bytes come behind those on the tape, the highest of each int first");
        PoleRiver x = new PoleRiver();
        // "size 3 2" and bytes above 127 behind: the first that begins no TOKEN is told
        x.feed(0x73697a65, 0x20332032, 0x3b20ff80, 0x80818283, 0xfffefdfc);
        none("bytes above 127", x, x.river(20), 9);
        due("fault", x.fault(0), 1);
        due("place", x.fault(1), 10);
        x.feed(0x73697a65, 0x20332032, 0x3b706f6c, 0x6520373b, 0x20202020);
        well("in order", x, x.river(20), 6);
        well("pole", x, x.told(11), 7);
        x.feed(0x73697a65, 0x20332032, 0x3b202020, BLANKS, BLANKS);
        x.feed(0x706f6c65, 0x20383b20, BLANKS, BLANKS, BLANKS);
        well("behind those", x, x.river(27), 6);
        well("pole", x, x.told(11), 8);
    }

    private static void firstBytesOfTheTape() {
        says("The first n bytes of the tape (which is empty then) are the RIVER: how many CELLS");
        PoleRiver x = new PoleRiver();
        feed(x, "size 3 2;size 4 4;");
        well("nine of them", x, x.river(9), 6);
        none("the tape is empty", x, x.river(1), 1);
        due("empty", x.feed(BLANKS, BLANKS, BLANKS, BLANKS, BLANKS), 20);
        none("none of them", x, x.river(0), 9);
        due("fault of none", x.fault(0), 2);
        due("place of none", x.fault(1), 0);
        due("empty by a FAULT, too", x.feed(BLANKS, BLANKS, BLANKS, BLANKS, BLANKS), 20);
    }

    private static void bytesThatTheTapeHasNot() {
        says("(1: n below 0, or more than the tape has, too;");
        PoleRiver x = new PoleRiver();
        none("one of an empty tape", x, x.river(1), 1);
        feed(x, SIZE);
        for (int n : new int[] {-1, 21, LEAST, MOST}) {
            none("n " + n, x, x.river(n), 1);
        }
        due("no FAULT is told", x.fault(0), -1);
        well("the tape is as it was", x, x.river(9), 6);
    }

    private static void oldRiverStays() {
        says("9: the old one stays");
        PoleRiver x = on(TWO + "row 7 7 7;boat draft 4 load 2 straight 1 slant 1 turn 1 lost 1;");
        x.pass(2);
        x.off(1);
        int part = x.part(3);
        none("a FAULT behind all other PARTS", x, river(x, "size 5 5;row 1 1 1 1 1;"
                + "bar z takes 9 chance 9 goes 9 comes 9;pole 0;colour 0;boat draft 9 load 0 straight 9 slant 9 turn 9 lost 9;#"), 9);
        int[] due = {3, 2, 2, 2, 1, 4, 2, 1, 1, 1, 1, 12, 11};
        for (int k = 0; k < due.length; k++) {
            well("told " + k, x, x.told(k), due[k]);
        }
        well("its depths", x, x.depth(0, 0), 7);
        well("its BARS", x, x.bar(1, 0), 1);
        well("THOUGHT", x, x.part(3), part);
        well("its names", x, rule(x, "sound b;"), 1);
    }

    private static void firstBytesForARule() {
        says("Likewise the RULE: how many STEPS");
        PoleRiver x = on(TWO);
        feed(x, "go;stop;wait 1;");
        well("two of them", x, x.rule(8), 2);
        none("the tape is empty", x, x.rule(1), 1);
        feed(x, "go;");
        well("none of them", x, x.rule(0), 0);
        due("empty then", x.feed(0, 0, 0, 0, 0), 20);
    }

    private static void aboveThreeHundred() {
        says("(1: above 300, too; 9)");
        PoleRiver x = on(TWO);
        feed(x, "stop;" + " ".repeat(315));
        for (int n : new int[] {-1, 301, 320, 321, LEAST, MOST}) {
            none("n " + n, x, x.rule(n), 1);
        }
        due("the tape is as it was", x.feed(0, 0, 0, 0, 0), 340);
        well("300", x, x.rule(300), 1);
        feed(x, "go;");
        none("more than the tape has", x, x.rule(21), 1);
        well("what it has", x, x.rule(3), 1);
    }

    private static void oldRuleStays() {
        says("9)");
        PoleRiver x = on(TWO);
        rule(x, "wait 2;");
        none("a FAULT behind other STEPS", x, rule(x, "wait 3;wait 4;#"), 9);
        due("the tape is empty", x.feed(0, 0, 0, 0, 0), 20);
        x.play(0, 0, 0);
        well("two days as ahead", x, x.played(3), 2);
    }

    private static void faultOfTheLatest() {
        says("Of the latest river() or rule() with STATUS 0 or 9, what 0: the FAULT (0 without one), 1: its place (NONE without).");
        PoleRiver x = new PoleRiver();
        river(x, "size 3 2#");
        due("FAULT", x.fault(0), 1);
        due("place", x.fault(1), 8);
        x.river(1000);
        x.rule(-1);
        x.told(99);
        due("FAULT, STATUS 1 between", x.fault(0), 1);
        due("place, STATUS 1 between", x.fault(1), 8);
        rule(x, "");
        due("without", x.fault(0), 0);
        due("without a place", x.fault(1), -1);
        rule(x, "go;;");
        due("of a RULE", x.fault(0), 2);
        due("its place", x.fault(1), 3);
        river(x, SIZE);
        due("without again", x.fault(0), 0);
        due("without a place again", x.fault(1), -1);
    }

    private static void faultOfOthers() {
        says("NONE for others, and ahead of any.");
        PoleRiver x = new PoleRiver();
        due("ahead of any", x.fault(0), -1);
        due("place ahead of any", x.fault(1), -1);
        x.river(1);
        due("STATUS 1 is none", x.fault(0), -1);
        river(x, "#");
        for (int what : new int[] {-1, 2, LEAST, MOST}) {
            due("what " + what, x.fault(what), -1);
        }
        due("it has no STATUS", x.status(), 9);
    }
}
