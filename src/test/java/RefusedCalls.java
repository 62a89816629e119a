import java.util.ArrayList;
import java.util.List;
import java.util.function.Function;

/** Terms 5: which STATUS comes first, and that a call with another one than 0 changes nothing else. */
public final class RefusedCalls extends Due {
    private static final String FORK = "size 3 2;row 9 5 9;row 9 5 9;"
            + "bar a takes 3 chance 8 goes 4 comes 4;bar b takes 3 chance 4 goes 2 comes 0;"
            + "at a 1 0 to 1 0;at b 1 1 to 1 1;stage 0 0 1 less 9;boat draft 4 load 3 straight 10 slant 14 turn 1 lost 100;";

    /** A call that is refused with this STATUS; it answers NONE, or 0 for false. */
    private static final class Refusal {
        final String name;
        final int status;
        final boolean isBoolean;
        final Function<PoleRiver, Object> call;

        Refusal(String name, int status, boolean isBoolean, Function<PoleRiver, Object> call) {
            this.name = name;
            this.status = status;
            this.isBoolean = isBoolean;
            this.call = call;
        }
    }

    private static final List<Refusal> REFUSALS = new ArrayList<>();

    public static void main(String[] args) {
        terms(5);
        traysRefused();
        looksRefused();
        waysRefused();
        worthsRefused();
        pilotsRefused();
        firstStatusThatHolds();
        changesNothingElse();
        leavesTapeAndMarks();
        faultsEmptyTheTapeAlone();
        thoseWithoutAStatus();
        finish();
    }

    private static void no(String name, int status, Function<PoleRiver, Object> call) {
        REFUSALS.add(new Refusal(name, status, false, call));
    }

    private static void not(String name, int status, Function<PoleRiver, Object> call) {
        REFUSALS.add(new Refusal(name, status, true, call));
    }

    // On the object below TRAYS 0 (three CELLS of a way), 1 (two numbers that are none) are of sort 0, 2 of
    // sort 1, 3 is MISSING; from 1 to 1 there is no way on day 3, and none is left to go back to.

    private static void traysRefused() {
        not("tray(4)", 1, x -> x.tray(4, 0, 1));
        not("tray sort", 1, x -> x.tray(0, 4, 1));
        not("tray many", 1, x -> x.tray(0, 0, 61));
        not("write to none", 1, x -> x.write(-1, 0, 9L));
        not("write to MISSING", 2, x -> x.write(3, 0, 9L));
        not("write to no place", 3, x -> x.write(0, 3, 9L));
        no("read of none", 1, x -> x.read(4, 0));
        no("read of MISSING", 2, x -> x.read(3, 0));
        no("read of no place", 3, x -> x.read(0, -1));
        not("pour from none", 1, x -> x.pour(4, 0, 0, 0, 1));
        not("pour from MISSING", 2, x -> x.pour(3, 0, 0, 0, 1));
        not("pour to MISSING", 2, x -> x.pour(0, 0, 3, 0, 1));
        not("pour of unlike ones", 8, x -> x.pour(0, 0, 2, 0, 1));
        not("pour of too few", 3, x -> x.pour(1, 0, 0, 0, 3));
        not("pour to too few", 3, x -> x.pour(0, 0, 1, 0, 3));
        no("river of too many", 1, x -> x.river(901));
        no("river below 0", 1, x -> x.river(-1));
        no("rule of too many", 1, x -> x.rule(301));
        no("rule below 0", 1, x -> x.rule(-1));
    }

    private static void looksRefused() {
        no("told(13)", 1, x -> x.told(13));
        no("bar(2)", 1, x -> x.bar(2, 0));
        no("bar what", 1, x -> x.bar(0, 6));
        no("barOf(6)", 1, x -> x.barOf(6));
        no("barOf none", 6, x -> x.barOf(0));
        no("stage(100)", 1, x -> x.stage(100));
        no("depth cell", 1, x -> x.depth(6, 0));
        no("depth set", 1, x -> x.depth(0, 4));
        no("open(6)", 1, x -> x.open(6));
        no("part(4)", 1, x -> x.part(4));
        not("there(2)", 1, x -> x.there(2));
        not("chance(4)", 1, x -> x.chance(4));
        no("pass(0)", 1, x -> x.pass(0));
        no("pass(10)", 1, x -> x.pass(10));
        no("pass above 99", 4, x -> x.pass(9));
        not("sound cell", 1, x -> x.sound(6, 5));
        not("sound read", 1, x -> x.sound(0, 31));
        not("sound that can't be", 7, x -> x.sound(0, 7));
        not("colour cell", 1, x -> x.colour(-1, true));
        not("colour that can't be", 7, x -> x.colour(0, true));
        not("off(4)", 1, x -> x.off(4));
        not("off(-1)", 1, x -> x.off(-1));
    }

    private static void waysRefused() {
        no("minutes tray", 1, x -> x.minutes(4, 1));
        no("minutes many", 1, x -> x.minutes(0, 41));
        no("minutes MISSING", 2, x -> x.minutes(3, 1));
        no("minutes too few", 3, x -> x.minutes(0, 4));
        no("minutes no CELL", 5, x -> x.minutes(1, 1));
        no("struck set", 1, x -> x.struck(0, 3, 4));
        no("struck MISSING", 2, x -> x.struck(3, 1, 0));
        no("struck too few", 3, x -> x.struck(0, 4, 0));
        no("struck no CELL", 5, x -> x.struck(1, 2, 0));
        no("struck none", 6, x -> x.struck(0, 3, 2));
        not("sure many", 1, x -> x.sure(0, 0));
        not("sure MISSING", 2, x -> x.sure(3, 1));
        not("sure too few", 3, x -> x.sure(0, 4));
        not("sure no CELL", 5, x -> x.sure(1, 2));
        no("soonest cell", 1, x -> x.soonest(0, 6, 0));
        no("soonest set", 1, x -> x.soonest(0, 2, 4));
        no("soonest none", 6, x -> x.soonest(0, 2, 0));
        no("surest cell", 1, x -> x.surest(6, 0));
        no("mean cell", 1, x -> x.mean(0, -1));
        no("way(3)", 6, x -> x.way(3));
        no("way(-1)", 6, x -> x.way(-1));
    }

    private static void worthsRefused() {
        not("worth cell", 1, x -> x.worth(0, 6, 1));
        not("worth k", 1, x -> x.worth(0, 2, 4));
        no("next cell", 1, x -> x.next(6, 0, 1));
        no("next k", 1, x -> x.next(0, 2, 0));
        no("lieTo cell", 1, x -> x.lieTo(0, 6, 0, 0));
        no("lieTo days", 1, x -> x.lieTo(0, 2, 10, 0));
        no("lieTo cost", 1, x -> x.lieTo(0, 2, 0, 1000000));
        no("lieTo above 99", 4, x -> x.lieTo(0, 2, 9, 0));
        no("marked cell", 1, x -> x.marked(6, 0, 1));
        no("marked many", 1, x -> x.marked(0, 2, 3));
        not("tells cell", 1, x -> x.tells(0, 6));
        no("dredged cell", 1, x -> x.dredged(-1, 0));
        not("brush cell", 1, x -> x.brush(0, 6, 0, 1, 1));
        not("brush bar", 1, x -> x.brush(0, 2, 2, 1, 1));
        not("brush more", 1, x -> x.brush(0, 2, 0, 17, 1));
        not("brush days", 1, x -> x.brush(0, 2, 0, 1, 0));
        not("brush above 99", 4, x -> x.brush(0, 2, 0, 1, 9));
        no("lighten cell", 1, x -> x.lighten(0, 6, 1));
        no("lighten n", 1, x -> x.lighten(0, 2, 17));
    }

    private static void pilotsRefused() {
        no("play cell", 1, x -> x.play(0, 6, 0));
        no("play seed", 1, x -> x.play(0, 2, 10000));
        no("played(7)", 1, x -> x.played(7));
        no("tally cell", 1, x -> x.tally(6, 0, 0, 1, 0));
        no("tally seed", 1, x -> x.tally(0, 2, -1, 1, 0));
        no("tally many", 1, x -> x.tally(0, 2, 0, 31, 0));
        no("tally how", 1, x -> x.tally(0, 2, 0, 1, 4));
        no("tally of the last", 1, x -> x.tally(0, 2, 9999, 2, 0));
        no("back", 6, PoleRiver::back);
    }

    private static PoleRiver late() {
        PoleRiver x = on(FORK.replace("lost 100;", "lost 100;colour 16;"));
        rule(x, "sound a;wait 1;off 1;go;");
        lay(x, 0, 0, 0, 1, 2);
        lay(x, 1, 0, 9, -1);
        lay(x, 2, 1, 5);
        for (int k = 0; k < 10; k++) {
            x.pass(9);
        }
        x.pass(1);
        x.off(1);
        x.soonest(0, 2, 1);
        x.play(0, 2, 3);
        x.sound(1, 5);
        x.there(1);
        return x;
    }

    private static String state(PoleRiver x) {
        StringBuilder all = new StringBuilder();
        all.append("fraction ").append(x.top()).append('/').append(x.bottom()).append(" fault ").append(x.fault(0));
        for (int k = 0; k < 13; k++) {
            all.append(" told ").append(x.told(k));
        }
        for (int k = 0; k < 4; k++) {
            all.append(" part ").append(x.part(k)).append(" way ").append(x.way(k));
            for (int p = 0; p < 4; p++) {
                all.append(" read ").append(x.read(k, p)).append(' ').append(x.status());
            }
        }
        for (int k = 0; k < 6; k++) {
            all.append(" cell ").append(x.barOf(k)).append(' ').append(x.depth(k, 3)).append(' ').append(x.open(k));
        }
        for (int k = 0; k < 7; k++) {
            all.append(" played ").append(x.played(k));
        }
        return all.append(" length ").append(x.length()).toString();
    }

    private static void refuse(Refusal r, PoleRiver x) {
        Object answer = r.call.apply(x);
        long due = r.isBoolean ? 0 : PoleRiver.NONE;
        long got = answer instanceof Boolean b ? b ? 1 : 0 : ((Number) answer).longValue();
        due(r.name, got, due);
        due(r.name + " status", x.status(), r.status);
    }

    private static void changesNothingElse() {
        says("With another STATUS than 0 a call gives NONE, or false, and changes nothing else");
        for (Refusal r : REFUSALS) {
            PoleRiver x = late();
            String ahead = state(x);
            refuse(r, x);
            String behind = state(x);
            due(r.name + ": " + behind + " for " + ahead, behind.equals(ahead), true);
            if (!r.name.equals("back")) {
                // the RULE, too: a go, minutes and days as ahead
                well(r.name + " play", x, x.play(0, 2, 3), late().play(0, 2, 3));
                due(r.name + " minutes", x.played(0), late().played(0));
            }
        }
    }

    private static void leavesTapeAndMarks() {
        says("changes nothing else");
        PoleRiver x = late();
        x.mark();
        due("twenty bytes", x.feed(0, 0, 0, 0, 0), 20);
        for (Refusal r : REFUSALS) {
            if (!r.name.equals("back")) {
                refuse(r, x);
            }
        }
        due("the tape", x.feed(0, 0, 0, 0, 0), 40);
        well("the MARK", x, x.mark(), 2);
        x.mark();
        none("a fourth MARK", x, x.mark(), 4);
        well("changes nothing", x, x.back(), 2);
    }

    private static void faultsEmptyTheTapeAlone() {
        says("(but river(), rule() with 9 the tape, and what fault() tells)");
        for (int k = 0; k < 2; k++) {
            PoleRiver x = late();
            String ahead = state(x).replaceAll(" fault -?\\d+", "");
            feed(x, "size 2 2;bar z takes 9 chance 9 goes 9 comes 9;#");
            none("FAULT", x, k == 0 ? x.river(48) : x.rule(48), 9);
            due("what fault() tells", x.fault(0), k == 0 ? 1 : 2);
            due("its place", x.fault(1), k == 0 ? 47 : 0);
            String behind = state(x).replaceAll(" fault -?\\d+", "");
            due(behind + " for " + ahead, behind.equals(ahead), true);
            due("the tape is empty", x.feed(0, 0, 0, 0, 0), 20);
        }
    }

    private static void thoseWithoutAStatus() {
        says("status(), top(), bottom(), feed(), fault() have none.");
        PoleRiver x = late();
        for (int status : new int[] {0, 1, 6}) {
            if (status == 0) {
                x.told(0);
            } else if (status == 1) {
                x.told(13);
            } else {
                x.barOf(0);
            }
            x.top();
            x.bottom();
            x.fault(0);
            x.fault(9);
            x.feed(0, 0, 0, 0, 0);
            due("STATUS", x.status(), status);
            due("again", x.status(), status);
        }
    }

    private static void firstStatusThatHolds() {
        says("STATUS of a call is the first of these that holds");
        PoleRiver x = late();
        none("1 ahead of 2: minutes", x, x.minutes(3, 0), 1);
        none("1 ahead of 3: minutes", x, x.minutes(0, 41), 1);
        none("1 ahead of 5: struck", x, x.struck(1, 2, 4), 1);
        none("2 ahead of 3: read", x, x.read(3, 99), 2);
        none("3 ahead of 5: minutes", x, x.minutes(1, 3), 3);
        none("5 ahead of 6: struck", x, x.struck(1, 2, 0), 5);
        none("1 ahead of 4: pass", x, x.pass(10), 1);
        none("1 ahead of 4: lieTo", x, x.lieTo(0, 2, 9, -1), 1);
        refused("1 ahead of 4: brush", x, x.brush(0, 2, 0, -1, 9), 1);
        refused("1 ahead of 7: sound", x, x.sound(0, -10), 1);
        none("1 ahead of 6: soonest", x, x.soonest(0, 2, 4), 1);
        PoleRiver unplayed = new PoleRiver();
        none("1 ahead of 6: played", unplayed, unplayed.played(7), 1);
        x = on("size 3 2;row 9 3 9;row 9 3 9;bar a takes 1 chance 1 goes 1 comes 1;at a 1 0 to 1 0;");
        for (int k = 0; k < 11; k++) {
            x.pass(9);
        }
        none("4 ahead of 6: lieTo", x, x.lieTo(0, 2, 1, 0), 4);
        refused("4 ahead of 6: brush", x, x.brush(0, 2, 0, 0, 1), 4);
        none("6: lieTo", x, x.lieTo(0, 2, 0, 0), 6);
        none("6: surest", x, x.surest(0, 2), 6);
        none("6: mean", x, x.mean(0, 2), 6);
        none("6: marked", x, x.marked(0, 2, 1), 6);
        refused("6: tells", x, x.tells(0, 2), 6);
        none("6: dredged", x, x.dredged(0, 2), 6);
        none("6: lighten", x, x.lighten(0, 2, 1), 6);
    }
}
