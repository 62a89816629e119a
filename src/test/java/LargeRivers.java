import java.util.ArrayList;
import java.util.Arrays;
import java.util.List;
import java.util.PriorityQueue;
import java.util.Random;

/**
 * The largest rivers: 60 CELLS, five BARS, three SOUNDINGS, winding ways. What they are is asked of
 * an object (open(), barOf(), part(), depth(), told()); what follows from that is reckoned here, as
 * plainly as may be: whole ways in a queue, all sets A, each reading for itself. Each part of it is
 * asked of an object of its own, as none is good for more than 512 calls.
 */
public final class LargeRivers extends Due {
    private static final int WIDTH = 10;
    private static final int CELLS = 60;
    private static final int BARS = 5;
    private static final int SETS = 32;
    private static final long WHOLE = 1000000L;

    private final String text;
    private final String name;
    /** Days that go by, and a SOUNDING behind them. */
    private final int days;
    private final int sounded;
    private final int read;
    private PoleRiver x;
    private int straight;
    private int slant;
    private int turn;
    private int lost;
    private int pole;
    /** Of the BARS their least CELLS' depths without them and with them, if they have CELLS. */
    private final List<Integer> bars = new ArrayList<>();
    private final int[] deep = new int[BARS];
    private final int[] shoal = new int[BARS];
    private final int[] kinds = new int[CELLS];
    private final int[] owners = new int[CELLS];
    private final long[] parts = new long[SETS];
    /** Of each A the first of the soonest ways, or null. */
    private final Way[] ways = new Way[SETS];
    private int from;
    private int to;

    /** CELLS so far, and MINUTES. */
    private record Way(int minutes, int[] cells) implements Comparable<Way> {
        public int compareTo(Way o) {
            return minutes != o.minutes ? Integer.compare(minutes, o.minutes) : Arrays.compare(cells, o.cells);
        }
    }

    private LargeRivers(Random random, String name) {
        text = riverText(random);
        days = random.nextInt(4);
        sounded = random.nextInt(CELLS);
        read = random.nextInt(8);
        this.name = name;
    }

    public static void main(String[] args) {
        int rivers = args.length > 0 ? Integer.parseInt(args[0]) : 60;
        longestWay();
        for (int seed = 1; seed <= rivers; seed++) {
            Random random = new Random(seed);
            LargeRivers l = new LargeRivers(random, "river " + seed);
            l.look();
            l.choose(random);
            l.soonestWays();
            l.choices();
            l.worths();
        }
        finish();
    }

    /** A way along each second row and round the corners goes through 33 CELLS, all OPEN. */
    private static void longestWay() {
        terms(3);
        says("over CELLS that are OPEN or of BARS in A (both ends, too): the fewest MINUTES");
        PoleRiver x = on("size 10 6;row 9 9 9 9 9 9 9 9 9 9;row 0 0 0 0 0 0 0 0 0 9;"
                + "row 9 9 9 9 9 9 9 9 9 9;row 9 0 0 0 0 0 0 0 0 0;row 9 9 9 9 9 9 9 9 9 9;"
                + "row 0 0 0 0 0 0 0 0 0 9;boat draft 4 load 0 straight 1 slant 99 turn 0 lost 0;");
        well("through all of it", x, x.soonest(0, 59, 0), 32);
        well("its CELLS", x, x.length(), 33);
        well("the last", x, x.way(32), 59);
        well("and back", x, x.soonest(59, 0, 0), 32);
    }

    private static String riverText(Random r) {
        StringBuilder t = new StringBuilder("size 10 6;");
        for (int y = 0; y < 6; y++) {
            t.append("row");
            for (int k = 0; k < WIDTH; k++) {
                t.append(' ').append(r.nextInt(5) < 2 ? r.nextInt(4) : 4 + r.nextInt(4));
            }
            t.append(";");
        }
        boolean[] taken = new boolean[CELLS];
        for (int b = 0; b < BARS; b++) {
            t.append("bar b").append((char) ('a' + b)).append(" takes ").append(1 + r.nextInt(4));
            t.append(" chance ").append(1 + r.nextInt(15)).append(" goes ").append(r.nextInt(17));
            t.append(" comes ").append(r.nextInt(17)).append(";");
            for (int k = 0; k < 4; k++) {
                int c = r.nextInt(CELLS);
                if (!taken[c]) {
                    taken[c] = true;
                    String at = c % WIDTH + " " + c / WIDTH;
                    t.append("at b").append((char) ('a' + b)).append(" ").append(at).append(" to ").append(at).append(";");
                }
            }
        }
        t.append("boat draft 4 load 2 straight ").append(1 + r.nextInt(3)).append(" slant ");
        t.append(r.nextBoolean() ? 1 + r.nextInt(4) : 50).append(" turn ").append(r.nextInt(3));
        t.append(" lost ").append(r.nextInt(40)).append(";pole ").append(r.nextInt(17)).append(";");
        return t.toString();
    }

    /** An object with the river as it is then. */
    private void anew() {
        x = on(text);
        if (days > 0) {
            x.pass(days);
            x.sound(sounded, read);
        }
    }

    private void look() {
        anew();
        straight = x.told(7);
        slant = x.told(8);
        turn = x.told(9);
        lost = x.told(10);
        pole = x.told(11);
        for (int c = 0; c < CELLS; c++) {
            kinds[c] = x.open(c);
            owners[c] = x.barOf(c);
        }
        for (int s = 0; s < SETS; s++) {
            parts[s] = x.part(s);
        }
        for (int b = 0; b < BARS; b++) {
            int least = x.bar(b, 5);
            if (least != PoleRiver.NONE) {
                bars.add(b);
                deep[b] = x.depth(least, 0);
                shoal[b] = x.depth(least, SETS - 1);
            }
        }
    }

    /** Two ends that have a way with all BARS gone, if such are found soon. */
    private void choose(Random random) {
        for (int k = 0; k < 8; k++) {
            from = random.nextInt(CELLS);
            to = random.nextInt(CELLS);
            for (int a = SETS - 1; a >= 0; a--) {
                ways[a] = a == SETS - 1 || ways[SETS - 1] != null ? soonest(a) : null;
            }
            if (ways[SETS - 1] != null && ways[SETS - 1].cells.length > 5) {
                return;
            }
        }
    }

    private boolean goes(int cell, int a) {
        return kinds[cell] == 2 || kinds[cell] == 1 && (a >> owners[cell] & 1) == 1;
    }

    private Way soonest(int a) {
        PriorityQueue<Way> queue = new PriorityQueue<>();
        boolean[] done = new boolean[CELLS * 9];
        if (goes(from, a)) {
            queue.add(new Way(0, new int[] {from}));
        }
        while (!queue.isEmpty()) {
            Way w = queue.poll();
            int n = w.cells.length;
            int c = w.cells[n - 1];
            int h = n == 1 ? 8 : heading(w.cells[n - 2], c);
            if (c == to) {
                return w;
            }
            if (done[c * 9 + h]) {
                continue;
            }
            done[c * 9 + h] = true;
            for (int d = 0; d < CELLS; d++) {
                if (goes(d, a) && heading(c, d) != 9) {
                    int[] cells = Arrays.copyOf(w.cells, n + 1);
                    cells[n] = d;
                    queue.add(new Way(w.minutes + step(h, heading(c, d)), cells));
                }
            }
        }
        return null;
    }

    /** By eighths round; 9 if it is not next to it. */
    private static int heading(int c, int d) {
        int across = d % WIDTH - c % WIDTH + 1;
        int down = d / WIDTH - c / WIDTH + 1;
        int[] round = {5, 6, 7, 4, 9, 0, 3, 2, 1};
        return across < 0 || across > 2 || down < 0 || down > 2 ? 9 : round[down * 3 + across];
    }

    private int step(int ahead, int heading) {
        int minutes = heading % 2 == 0 ? straight : slant;
        if (ahead < 8) {
            int eighths = Math.abs(heading - ahead);
            minutes += turn * Math.min(eighths, 8 - eighths);
        }
        return minutes;
    }

    private static long without(long[] weights, int a) {
        long sum = 0;
        for (int s = 0; s < SETS; s++) {
            sum += (s & a) == 0 ? weights[s] : 0;
        }
        return sum;
    }

    private long best(long[] weights) {
        long best = 0;
        for (int a = 0; a < SETS; a++) {
            best = ways[a] == null ? best : Math.max(best, without(weights, a));
        }
        return best;
    }

    private void tells(String what, long above, long below) {
        long a = above;
        long b = below;
        while (b != 0) {
            long rest = a % b;
            a = b;
            b = rest;
        }
        fraction(name + " " + what, x, above / a, below / a);
    }

    private void soonestWays() {
        for (int a = 0; a < SETS; a++) {
            anew();
            Way w = ways[a];
            if (w == null) {
                none(name + " soonest " + a, x, x.soonest(from, to, a), 6);
            } else {
                well(name + " soonest " + a, x, x.soonest(from, to, a), w.minutes);
                kept(name + " soonest " + a, x, w.cells);
            }
        }
    }

    private void choices() {
        int surest = -1;
        int mean = -1;
        long leastMean = 0;
        for (int a = 0; a < SETS; a++) {
            Way w = ways[a];
            if (w != null) {
                long more = surest < 0 ? 1 : without(parts, a) - without(parts, surest);
                if (more > 0 || more == 0 && w.minutes < ways[surest].minutes) {
                    surest = a;
                }
                long m = w.minutes * WHOLE + lost * likelyThere(a);
                if (mean < 0 || m < leastMean) {
                    mean = a;
                    leastMean = m;
                }
            }
        }
        anew();
        if (surest < 0) {
            none(name + " surest", x, x.surest(from, to), 6);
            none(name + " mean", x, x.mean(from, to), 6);
            return;
        }
        well(name + " surest", x, x.surest(from, to), surest);
        tells("surest", without(parts, surest), WHOLE);
        kept(name + " surest", x, ways[surest].cells);
        well(name + " mean", x, x.mean(from, to), mean);
        tells("mean", leastMean, WHOLE);
        kept(name + " mean", x, ways[mean].cells);
    }

    private long likelyThere(int a) {
        long sum = 0;
        for (int b = 0; b < BARS; b++) {
            sum += (a >> b & 1) == 0 ? 0 : WHOLE - without(parts, 1 << b);
        }
        return sum;
    }

    private void worths() {
        anew();
        long whole = WHOLE;
        for (int k = 0; k <= 3; k++) {
            agreed(name + " worth " + k, x, x.worth(from, to, k));
            tells("worth " + k, worth(parts, k), whole);
            whole *= bars.isEmpty() ? 1 : 32;
        }
        for (int k = 1; k <= 3 && !bars.isEmpty(); k++) {
            long best = worth(parts, k);
            int first = -1;
            for (int b : bars) {
                first = first < 0 && worthBy(parts, k, b) == best ? b : first;
            }
            well(name + " next " + k, x, x.next(from, to, k), first);
        }
    }

    /** In weights, thirty-two times as many with each SOUNDING. */
    private long worth(long[] weights, int k) {
        if (k == 0 || bars.isEmpty()) {
            return best(weights);
        }
        long most = 0;
        for (int b : bars) {
            most = Math.max(most, worthBy(weights, k, b));
        }
        return most;
    }

    private long worthBy(long[] weights, int k, int b) {
        long sum = 0;
        for (int read = shoal[b] - 1; read <= deep[b] + 1; read++) {
            long[] then = new long[SETS];
            for (int s = 0; s < SETS; s++) {
                int off = Math.abs(read - ((s >> b & 1) == 1 ? shoal[b] : deep[b]));
                then[s] = weights[s] * (off == 0 ? 2 * pole : off == 1 ? 16 - pole : 0);
            }
            sum += worth(then, k - 1);
        }
        return sum;
    }
}
