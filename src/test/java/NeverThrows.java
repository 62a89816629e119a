import java.util.Random;

/** Calls with numbers of all kinds, in all states: none may throw, and a STATUS tells NONE. */
public final class NeverThrows {
    private static final int[] KINDS = {Integer.MIN_VALUE, Integer.MIN_VALUE + 1, -1000000, -2, -1, 0, 0, 1, 1, 2, 3,
        4, 5, 6, 7, 9, 10, 12, 13, 16, 17, 30, 31, 32, 40, 41, 59, 60, 61, 99, 100, 300, 301, 899, 900, 9999, 10000,
        999999, 1000000, Integer.MAX_VALUE - 1, Integer.MAX_VALUE};
    private static final String[] TEXTS = {
        "size 10 6;row 5 5 5 5 5 5 5 5 5 5;row 5 5 5 5 5 5 5 5 5 5;bar a takes 1 chance 8 goes 1 comes 2;"
            + "bar b takes 2 chance 7 goes 3 comes 4;bar c takes 3 chance 6 goes 5 comes 6;"
            + "bar d takes 9 chance 5 goes 7 comes 8;bar e takes 9 chance 0 goes 16 comes 16;"
            + "at a 1 0 to 2 1;at b 3 0 to 3 0;at c 3 1 to 4 1;at d 9 5 to 9 5;stage 0 9 less 9;",
        "size 2 2;row 9 9;row 9 9;",
        "size 3 2;row 9 5 9;row 9 5 9;bar a takes 3 chance 8 goes 4 comes 4;at a 1 0 to 1 0;"
            + "boat draft 4 load 3 straight 99 slant 99 turn 99 lost 999;pole 16;colour 16;",
        "sound a;colour a;wait 9;when sure 8;go;end;when there a 8;stop;end;loop 9;loop 9;wait 1;end;end;",
        "loop 9;loop 9;loop 9;end;end;end;go;", "go;", "", ";", "size", "loop 1;loop 1;loop 1;loop 1;"};
    private static final Random RANDOM = new Random(11);
    private static int wrong = 0;

    public static void main(String[] args) {
        for (int object = 0; object < 400; object++) {
            PoleRiver x = new PoleRiver();
            for (int k = 0; k < 90; k++) {
                if (RANDOM.nextInt(12) == 0) {
                    text(x);
                }
                call(x, RANDOM.nextInt(42));
            }
        }
        System.exit(wrong == 0 ? 0 : 1);
    }

    private static int n() {
        return RANDOM.nextInt(4) == 0 ? RANDOM.nextInt(8) : KINDS[RANDOM.nextInt(KINDS.length)];
    }

    private static void text(PoleRiver x) {
        String text = TEXTS[RANDOM.nextInt(TEXTS.length)];
        for (int k = 0; k < text.length(); k += 20) {
            int[] v = new int[5];
            for (int j = 0; j < 20; j++) {
                int c = k + j < text.length() ? text.charAt(k + j) & 255 : 0;
                v[j / 4] = v[j / 4] << 8 | c;
            }
            x.feed(v[0], v[1], v[2], v[3], v[4]);
        }
        if (RANDOM.nextInt(2) == 0) {
            x.river(text.length());
        } else {
            x.rule(text.length());
        }
    }

    private static void check(PoleRiver x, int which, long got, boolean mayBeLess) {
        int status = x.status();
        boolean none = status != 0 && got != PoleRiver.NONE;
        boolean less = status == 0 && got < 0 && !mayBeLess;
        if (none || less || status < 0 || status > 9 || x.bottom() <= 0) {
            wrong++;
            System.out.println("call " + which + " answered " + got + " with STATUS " + status);
        }
    }

    private static void check(PoleRiver x, int which, boolean got) {
        if (got != (x.status() == 0)) {
            wrong++;
            System.out.println("call " + which + " answered " + got + " with STATUS " + x.status());
        }
    }

    private static void call(PoleRiver x, int w) {
        switch (w) {
            case 0 -> check(x, w, x.tray(n(), n(), n()));
            case 1 -> check(x, w, x.write(n(), n(), RANDOM.nextLong()));
            case 2 -> check(x, w, x.read(n(), n()), true);
            case 3 -> check(x, w, x.pour(n(), n(), n(), n(), n()));
            case 4 -> x.feed(n(), n(), n(), n(), n());
            case 5 -> check(x, w, x.river(n()), false);
            case 6 -> check(x, w, x.rule(n()), false);
            case 7 -> x.fault(n());
            case 8 -> check(x, w, x.told(n()), false);
            case 9 -> check(x, w, x.bar(n(), n()), false);
            case 10 -> check(x, w, x.barOf(n()), false);
            case 11 -> check(x, w, x.stage(n()), true);
            case 12 -> check(x, w, x.depth(n(), n()), true);
            case 13 -> check(x, w, x.open(n()), false);
            case 14 -> check(x, w, x.part(n()), false);
            case 15 -> check(x, w, x.there(n()));
            case 16 -> check(x, w, x.chance(n()));
            case 17 -> check(x, w, x.pass(n()), false);
            case 18 -> check(x, w, x.sound(n(), n()));
            case 19 -> check(x, w, x.colour(n(), RANDOM.nextBoolean()));
            case 20 -> check(x, w, x.off(n()));
            case 21 -> check(x, w, x.forget());
            case 22 -> check(x, w, x.minutes(n(), n()), false);
            case 23 -> check(x, w, x.struck(n(), n(), n()), false);
            case 24 -> check(x, w, x.sure(n(), n()));
            case 25 -> check(x, w, x.soonest(n(), n(), n()), false);
            case 26 -> check(x, w, x.surest(n(), n()), false);
            case 27 -> check(x, w, x.mean(n(), n()), false);
            case 28 -> check(x, w, x.length(), false);
            case 29 -> check(x, w, x.way(n()), false);
            case 30 -> check(x, w, x.worth(n(), n(), n()));
            case 31 -> check(x, w, x.next(n(), n(), n()), false);
            case 32 -> check(x, w, x.lieTo(n(), n(), n(), n()), false);
            case 33 -> check(x, w, x.marked(n(), n(), n()), false);
            case 34 -> check(x, w, x.tells(n(), n()));
            case 35 -> check(x, w, x.dredged(n(), n()), false);
            case 36 -> check(x, w, x.brush(n(), n(), n(), n(), n()));
            case 37 -> check(x, w, x.lighten(n(), n(), n()), false);
            case 38 -> check(x, w, x.play(n(), n(), n()), false);
            case 39 -> check(x, w, x.played(n()), true);
            case 40 -> check(x, w, x.tally(n(), n(), n(), n(), n()), false);
            default -> check(x, w, RANDOM.nextInt(4) > 0 ? x.mark() : x.back(), false);
        }
    }
}
