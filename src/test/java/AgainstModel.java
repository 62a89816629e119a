import java.math.BigInteger;
import java.util.ArrayDeque;
import java.util.ArrayList;
import java.util.Arrays;
import java.util.Deque;
import java.util.HashMap;
import java.util.HashSet;
import java.util.List;
import java.util.Map;
import java.util.PriorityQueue;
import java.util.Random;
import java.util.Set;
import java.util.TreeMap;
import java.util.regex.Matcher;
import java.util.regex.Pattern;

/**
 * Plays random calls on PoleRiver and on a model that is written from the document anew, as plainly
 * as may be (fractions without bound, whole ways in a queue, exceptions for FAULTS), and compares
 * every answer, STATUS and FRACTION. The random numbers begin at told seeds: each run is the same.
 */
public final class AgainstModel {
    private static final int NONE = -1;
    /** No step begins behind so many calls: none takes more than those that are left of 512. */
    private static final int MOST_CALLS = 380;
    private static int wrong = 0;
    private static int compared = 0;
    private static final Map<String, int[]> seen = new TreeMap<>();

    public static void main(String[] args) {
        int objects = args.length > 0 ? Integer.parseInt(args[0]) : 700;
        int first = args.length > 1 ? Integer.parseInt(args[1]) : 1;
        for (int k = 0; k < objects && wrong < 10; k++) {
            new Driver(new Random(first + k), "object " + (first + k)).run();
        }
        for (int k = 0; k < objects * 10 && wrong < 10; k++) {
            new Driver(new Random(5000000L + first + k), "text " + (first + k)).runTexts();
        }
        if (args.length > 0) {
            for (Map.Entry<String, int[]> e : seen.entrySet()) {
                System.out.println(e.getKey() + " " + Arrays.toString(e.getValue()));
            }
        }
        System.out.println(compared + " calls compared, " + wrong + " wrong");
        System.exit(wrong == 0 ? 0 : 1);
    }

    // ------------------------------------------------------------------ fractions

    private static final class Ratio implements Comparable<Ratio> {
        static final Ratio ZERO = of(0, 1);
        final BigInteger a;
        final BigInteger b;

        Ratio(BigInteger x, BigInteger y) {
            BigInteger g = x.gcd(y);
            a = x.divide(g);
            b = y.divide(g);
        }

        static Ratio of(long x, long y) {
            return new Ratio(BigInteger.valueOf(x), BigInteger.valueOf(y));
        }

        Ratio plus(Ratio o) {
            return new Ratio(a.multiply(o.b).add(o.a.multiply(b)), b.multiply(o.b));
        }

        Ratio times(Ratio o) {
            return new Ratio(a.multiply(o.a), b.multiply(o.b));
        }

        Ratio by(Ratio o) {
            return new Ratio(a.multiply(o.b), b.multiply(o.a));
        }

        public int compareTo(Ratio o) {
            return a.multiply(o.b).compareTo(o.a.multiply(b));
        }
    }

    // ------------------------------------------------------------------ texts

    private static final class Fault extends RuntimeException {
        final int kind;
        final int place;

        Fault(int kind, int place) {
            this.kind = kind;
            this.place = place;
        }
    }

    private static final class Bar {
        String name;
        int takes;
        int chance;
        int goes;
        int comes;
        final List<Integer> cells = new ArrayList<>();

        int least() {
            return cells.stream().min(Integer::compare).orElse(NONE);
        }
    }

    private static final class River {
        int w = 0;
        int h = 0;
        int[][] steps = new int[6][10];
        List<Bar> bars = new ArrayList<>();
        List<Integer> stage = new ArrayList<>();
        int[] boat = {4, 0, 10, 14, 1, 120};
        int pole = 12;
        int colour = 11;

        int barOf(int cell) {
            for (int k = 0; k < bars.size(); k++) {
                if (bars.get(k).cells.contains(cell)) {
                    return k;
                }
            }
            return NONE;
        }

        int stageOf(int day) {
            return day < stage.size() ? stage.get(day) : 0;
        }

        int depth(int cell, int set, int day) {
            int b = barOf(cell);
            int d = steps[cell / w][cell % w] + stageOf(day);
            return b >= 0 && (set & (1 << b)) != 0 ? d - bars.get(b).takes : d;
        }
    }

    /** A STEP with those within it; the RULE is one, too. */
    private static final class Step {
        String what = "";
        int bar = NONE;
        int n = 0;
        final List<Step> inner = new ArrayList<>();
    }

    private static final class Parser {
        private static final Pattern TOKEN = Pattern.compile("[a-z]+|[0-9]+|;");
        private static final Set<String> RESERVED = new HashSet<>(Arrays.asList("size", "row", "bar",
                "takes", "chance", "goes", "comes", "at", "to", "stage", "less", "boat", "draft", "load",
                "straight", "slant", "turn", "lost", "pole", "colour"));
        final String text;
        int at = 0;

        Parser(byte[] bytes) {
            StringBuilder b = new StringBuilder();
            for (byte x : bytes) {
                b.append((char) (x & 255));
            }
            text = b.toString();
        }

        int begin() {
            int k = at;
            while (k < text.length() && (text.charAt(k) == ' ' || text.charAt(k) == '\n')) {
                k++;
            }
            return k;
        }

        /** The TOKEN ahead, "" at the end. */
        String peek() {
            int k = begin();
            if (k == text.length()) {
                return "";
            }
            Matcher m = TOKEN.matcher(text).region(k, text.length());
            if (!m.lookingAt() || Character.isDigit(m.group().charAt(0)) && m.group().length() > 4) {
                throw new Fault(1, k);
            }
            return m.group();
        }

        String take() {
            String t = peek();
            at = begin() + t.length();
            return t;
        }

        void word(String w) {
            if (!peek().equals(w)) {
                throw new Fault(2, begin());
            }
            take();
        }

        int number(int least, int most) {
            if (!peek().matches("[0-9]+")) {
                throw new Fault(2, begin());
            }
            int v = Integer.parseInt(peek());
            if (v < least || v > most) {
                throw new Fault(4, begin());
            }
            return v;
        }

        int takeNumber(int least, int most) {
            int v = number(least, most);
            take();
            return v;
        }

        String name() {
            String t = peek();
            if (!t.matches("[a-z]{1,8}") || RESERVED.contains(t)) {
                throw new Fault(2, begin());
            }
            return t;
        }

        River river() {
            River r = new River();
            word("size");
            r.w = takeNumber(2, 10);
            r.h = takeNumber(2, 6);
            word(";");
            Set<String> told = new HashSet<>();
            int rows = 0;
            while (!peek().isEmpty()) {
                String p = peek();
                int here = begin();
                if (Arrays.asList("stage", "boat", "pole", "colour").contains(p) && !told.add(p)) {
                    throw new Fault(5, here);
                }
                if (p.equals("bar") && r.bars.size() == 5 || p.equals("row") && rows == r.h) {
                    throw new Fault(6, here);
                }
                take();
                switch (p) {
                    case "row" -> row(r, rows++);
                    case "bar" -> bar(r);
                    case "at" -> at(r);
                    case "stage" -> stage(r);
                    case "boat" -> boat(r);
                    case "pole" -> r.pole = takeNumber(0, 16);
                    case "colour" -> r.colour = takeNumber(0, 16);
                    default -> throw new Fault(2, here);
                }
                word(";");
            }
            return r;
        }

        void row(River r, int k) {
            int n = 0;
            do {
                int v = number(0, 20);
                if (n == r.w) {
                    throw new Fault(6, begin());
                }
                r.steps[k][n++] = v;
                take();
            } while (!peek().equals(";"));
            if (n < r.w) {
                throw new Fault(7, begin());
            }
        }

        void bar(River r) {
            Bar b = new Bar();
            b.name = name();
            for (Bar o : r.bars) {
                if (o.name.equals(b.name)) {
                    throw new Fault(3, begin());
                }
            }
            take();
            word("takes");
            b.takes = takeNumber(1, 9);
            word("chance");
            b.chance = takeNumber(0, 16);
            word("goes");
            b.goes = takeNumber(0, 16);
            word("comes");
            b.comes = takeNumber(0, 16);
            r.bars.add(b);
        }

        int named(River r) {
            String n = name();
            for (int k = 0; k < r.bars.size(); k++) {
                if (r.bars.get(k).name.equals(n)) {
                    take();
                    return k;
                }
            }
            throw new Fault(3, begin());
        }

        void at(River r) {
            Bar b = r.bars.get(named(r));
            int x = takeNumber(0, r.w - 1);
            int y = takeNumber(0, r.h - 1);
            word("to");
            int x2 = takeNumber(x, r.w - 1);
            int y2 = number(y, r.h - 1);
            for (int i = x; i <= x2; i++) {
                for (int j = y; j <= y2; j++) {
                    if (r.barOf(j * r.w + i) != NONE) {
                        throw new Fault(5, begin());
                    }
                }
            }
            for (int i = x; i <= x2; i++) {
                for (int j = y; j <= y2; j++) {
                    b.cells.add(j * r.w + i);
                }
            }
            take();
        }

        void stage(River r) {
            do {
                int here = begin();
                boolean less = peek().equals("less");
                if (less) {
                    if (r.stage.size() == 12) {
                        throw new Fault(6, here);
                    }
                    take();
                }
                int v = number(0, 9);
                if (r.stage.size() == 12) {
                    throw new Fault(6, here);
                }
                take();
                r.stage.add(less ? -v : v);
            } while (!peek().equals(";"));
        }

        void boat(River r) {
            String[] words = {"draft", "load", "straight", "slant", "turn", "lost"};
            int[] least = {1, 0, 1, 1, 0, 0};
            int[] most = {20, 9, 99, 99, 99, 999};
            for (int k = 0; k < 6; k++) {
                word(words[k]);
                number(least[k], most[k]);
                if (k == 1 && number(0, 9) >= r.boat[0]) {
                    throw new Fault(4, begin());
                }
                r.boat[k] = takeNumber(least[k], most[k]);
            }
        }

        int steps = 0;

        Step rule(River r) {
            Step all = new Step();
            while (!peek().isEmpty()) {
                step(r, all, 0);
            }
            return all;
        }

        void step(River r, Step into, int deep) {
            String w = peek();
            int here = begin();
            if (!Arrays.asList("sound", "colour", "wait", "off", "when", "loop", "go", "stop").contains(w)) {
                throw new Fault(2, here);
            }
            if (steps == 30) {
                throw new Fault(6, here);
            }
            boolean block = w.equals("when") || w.equals("loop");
            if (block && deep == 3) {
                throw new Fault(7, here);
            }
            take();
            steps++;
            Step s = new Step();
            s.what = w;
            switch (w) {
                case "sound", "colour" -> s.bar = named(r);
                case "wait", "loop" -> s.n = takeNumber(1, 9);
                case "off" -> s.n = takeNumber(0, 9);
                case "when" -> {
                    s.what = peek();
                    if (s.what.equals("there") || s.what.equals("gone")) {
                        take();
                        s.bar = named(r);
                    } else {
                        word("sure");
                    }
                    s.n = takeNumber(0, 16);
                }
                default -> { }
            }
            word(";");
            if (block) {
                while (!peek().equals("end")) {
                    step(r, s, deep + 1);
                }
                take();
                word(";");
            }
            into.inner.add(s);
        }
    }

    // ------------------------------------------------------------------ the model

    private static final class Status extends RuntimeException {
        final int status;

        Status(int status) {
            this.status = status;
        }
    }

    private static final class Route {
        final List<Integer> cells;
        final int minutes;

        Route(List<Integer> cells, int minutes) {
            this.cells = cells;
            this.minutes = minutes;
        }
    }

    private static final class Choice {
        int a = NONE;
        Ratio chance = Ratio.ZERO;
        Route route;
    }

    private static final class Model {
        River river = new River();
        Step rule = new Step();
        int day = 0;
        int off = 0;
        long[] parts = {1000000};
        Ratio fraction = Ratio.ZERO;
        int status = 0;
        int fault = NONE;
        int place = NONE;
        List<Integer> way = null;
        int[] played = null;
        final List<Byte> tape = new ArrayList<>();
        final long[][] trays = new long[4][];
        final int[] sorts = new int[4];
        final Deque<Object[]> marks = new ArrayDeque<>();

        // what is asked of numbers

        void need(boolean so, int otherwise) {
            if (!so) {
                throw new Status(otherwise);
            }
        }

        int cells() {
            return river.w * river.h;
        }

        void cell(int c) {
            need(c >= 0 && c < cells(), 1);
        }

        void set(int s) {
            need(s >= 0 && s < (1 << river.bars.size()), 1);
        }

        void barNumber(int b) {
            need(b >= 0 && b < river.bars.size(), 1);
        }

        void within(int v, int least, int most) {
            need(v >= least && v <= most, 1);
        }

        // trays

        long tray(int t, int sort, int many) {
            within(t, 0, 3);
            within(sort, 0, 3);
            within(many, 0, 60);
            trays[t] = new long[many];
            sorts[t] = sort;
            return 1;
        }

        void placeIn(int t, int p) {
            within(t, 0, 3);
            need(trays[t] != null, 2);
            need(p >= 0 && p < trays[t].length, 3);
        }

        long write(int t, int p, long v) {
            placeIn(t, p);
            int bits = 8 << sorts[t];
            trays[t][p] = v << (64 - bits) >> (64 - bits);
            return 1;
        }

        long read(int t, int p) {
            placeIn(t, p);
            return trays[t][p];
        }

        long pour(int f, int p, int t, int a, int many) {
            within(f, 0, 3);
            within(t, 0, 3);
            need(p >= 0 && a >= 0 && many >= 0, 1);
            need(trays[f] != null && trays[t] != null, 2);
            need(sorts[f] == sorts[t], 8);
            need((long) p + many <= trays[f].length && (long) a + many <= trays[t].length, 3);
            long[] was = trays[f].clone();
            for (int k = 0; k < many; k++) {
                trays[t][a + k] = was[p + k];
            }
            return 1;
        }

        // texts

        long feed(int... five) {
            if (tape.size() + 20 > 900) {
                return NONE;
            }
            for (int v : five) {
                for (int s = 24; s >= 0; s -= 8) {
                    tape.add((byte) (v >> s));
                }
            }
            return tape.size();
        }

        byte[] takeTape(int n) {
            byte[] text = new byte[n];
            for (int k = 0; k < n; k++) {
                text[k] = tape.get(k);
            }
            tape.clear();
            fault = 0;
            place = NONE;
            return text;
        }

        long river(int n) {
            need(n >= 0 && n <= tape.size(), 1);
            try {
                river = new Parser(takeTape(n)).river();
            } catch (Fault f) {
                fault = f.kind;
                place = f.place;
                throw new Status(9);
            }
            first();
            return cells();
        }

        void first() {
            day = 0;
            off = 0;
            Ratio[] exact = new Ratio[1 << river.bars.size()];
            for (int s = 0; s < exact.length; s++) {
                exact[s] = Ratio.of(1, 1);
                for (int b = 0; b < river.bars.size(); b++) {
                    int c = river.bars.get(b).chance;
                    exact[s] = exact[s].times(Ratio.of((s & (1 << b)) != 0 ? c : 16 - c, 16));
                }
            }
            parts = share(exact);
        }

        /** Null if all are 0. */
        static long[] share(Ratio[] weights) {
            Ratio all = Ratio.ZERO;
            int greatest = 0;
            for (int s = 0; s < weights.length; s++) {
                all = all.plus(weights[s]);
                if (weights[s].compareTo(weights[greatest]) > 0) {
                    greatest = s;
                }
            }
            if (all.a.signum() == 0) {
                return null;
            }
            long[] out = new long[weights.length];
            long lacks = 1000000;
            for (int s = 0; s < weights.length; s++) {
                Ratio x = weights[s].times(Ratio.of(1000000, 1)).by(all);
                out[s] = x.a.divide(x.b).longValueExact();
                lacks -= out[s];
            }
            out[greatest] += lacks;
            return out;
        }

        long rule(int n) {
            need(n >= 0 && n <= tape.size() && n <= 300, 1);
            Parser p = new Parser(takeTape(n));
            try {
                rule = p.rule(river);
            } catch (Fault f) {
                fault = f.kind;
                place = f.place;
                throw new Status(9);
            }
            return p.steps;
        }

        long told(int what) {
            within(what, 0, 12);
            int[] all = {river.w, river.h, river.bars.size(), day, off, river.boat[0], river.boat[1],
                    river.boat[2], river.boat[3], river.boat[4], river.boat[5], river.pole, river.colour};
            return all[what];
        }

        long bar(int b, int what) {
            barNumber(b);
            within(what, 0, 5);
            Bar x = river.bars.get(b);
            need(what != 5 || !x.cells.isEmpty(), 6);
            int[] all = {x.takes, x.chance, x.goes, x.comes, x.cells.size(), x.least()};
            return all[what];
        }

        long barOf(int c) {
            cell(c);
            need(river.barOf(c) != NONE, 6);
            return river.barOf(c);
        }

        long stage(int d) {
            within(d, 0, 99);
            return river.stageOf(d);
        }

        long depth(int c, int s) {
            cell(c);
            set(s);
            return river.depth(c, s, day);
        }

        boolean passes(int c, int s) {
            return river.depth(c, s, day) >= river.boat[0] - off;
        }

        long open(int c) {
            cell(c);
            int b = river.barOf(c);
            if (passes(c, b == NONE ? 0 : 1 << b)) {
                return 2;
            }
            return passes(c, 0) ? 1 : 0;
        }

        // THOUGHT

        long part(int s) {
            set(s);
            return parts[s];
        }

        Ratio thereOf(int b) {
            Ratio r = Ratio.ZERO;
            for (int s = 0; s < parts.length; s++) {
                if ((s >> b & 1) == 1) {
                    r = r.plus(Ratio.of(parts[s], 1000000));
                }
            }
            return r;
        }

        long there(int b) {
            barNumber(b);
            fraction = thereOf(b);
            return 1;
        }

        static Ratio chanceOf(long[] parts, int a) {
            long sum = 0;
            for (int s = 0; s < parts.length; s++) {
                sum += (s & a) == 0 ? parts[s] : 0;
            }
            return Ratio.of(sum, 1000000);
        }

        long chance(int a) {
            set(a);
            fraction = chanceOf(parts, a);
            return 1;
        }

        long[] dayOn(long[] p, int brushed, int more) {
            Ratio[] out = new Ratio[p.length];
            for (int t = 0; t < p.length; t++) {
                long sum = 0;
                for (int s = 0; s < p.length; s++) {
                    long x = p[s];
                    for (int b = 0; b < river.bars.size(); b++) {
                        Bar bar = river.bars.get(b);
                        int goes = Math.min(16, bar.goes + (b == brushed ? more : 0));
                        boolean was = (s >> b & 1) == 1;
                        boolean is = (t >> b & 1) == 1;
                        x *= was ? (is ? 16 - goes : goes) : (is ? bar.comes : 16 - bar.comes);
                    }
                    sum += x;
                }
                out[t] = Ratio.of(sum, 1);
            }
            return share(out);
        }

        long pass(int days) {
            within(days, 1, 9);
            need(day + days <= 99, 4);
            for (int k = 0; k < days; k++) {
                parts = dayOn(parts, NONE, 0);
            }
            day += days;
            return day;
        }

        long likely(int c, int s, int read) {
            int d = river.depth(c, s, day);
            return read == d ? 2L * river.pole : Math.abs(read - d) == 1 ? 16 - river.pole : 0;
        }

        boolean hear(int c, int read) {
            Ratio[] x = new Ratio[parts.length];
            for (int s = 0; s < x.length; s++) {
                x[s] = Ratio.of(parts[s] * likely(c, s, read), 1);
            }
            long[] p = share(x);
            parts = p == null ? parts : p;
            return p != null;
        }

        boolean see(int c, boolean there) {
            int b = river.barOf(c);
            Ratio[] x = new Ratio[parts.length];
            for (int s = 0; s < x.length; s++) {
                boolean is = b != NONE && (s >> b & 1) == 1;
                x[s] = Ratio.of(parts[s] * (is == there ? river.colour : 16 - river.colour), 1);
            }
            long[] p = share(x);
            parts = p == null ? parts : p;
            return p != null;
        }

        long sound(int c, int read) {
            cell(c);
            within(read, -9, 30);
            need(hear(c, read), 7);
            return 1;
        }

        long colour(int c, boolean there) {
            cell(c);
            need(see(c, there), 7);
            return 1;
        }

        long off(int n) {
            within(n, 0, river.boat[1]);
            off = n;
            return 1;
        }

        long forget() {
            first();
            return 1;
        }

        // ways

        int[] wayIn(int t, int many) {
            within(t, 0, 3);
            within(many, 1, 40);
            need(trays[t] != null, 2);
            need(many <= trays[t].length, 3);
            int[] w = new int[many];
            for (int k = 0; k < many; k++) {
                need(trays[t][k] >= 0 && trays[t][k] < cells(), 5);
                w[k] = (int) trays[t][k];
                need(k == 0 || next(w[k - 1], w[k]), 5);
            }
            return w;
        }

        boolean next(int c, int d) {
            int x = Math.abs(c % river.w - d % river.w);
            int y = Math.abs(c / river.w - d / river.w);
            return Math.max(x, y) == 1;
        }

        /** 0 to 7 round, by the picture of the nine cells. */
        int heading(int c, int d) {
            int x = d % river.w - c % river.w;
            int y = d / river.w - c / river.w;
            int[][] round = {{3, 2, 1}, {4, 9, 0}, {5, 6, 7}};
            return round[y + 1][x + 1];
        }

        int minutesOf(List<Integer> w) {
            int sum = 0;
            for (int k = 1; k < w.size(); k++) {
                int h = heading(w.get(k - 1), w.get(k));
                sum += h % 2 == 0 ? river.boat[2] : river.boat[3];
                if (k > 1) {
                    int e = Math.abs(h - heading(w.get(k - 2), w.get(k - 1)));
                    sum += river.boat[4] * Math.min(e, 8 - e);
                }
            }
            return sum;
        }

        long minutes(int t, int many) {
            List<Integer> w = new ArrayList<>();
            for (int c : wayIn(t, many)) {
                w.add(c);
            }
            return minutesOf(w);
        }

        int struckAt(int[] w, int s) {
            for (int k = 0; k < w.length; k++) {
                if (!passes(w[k], s)) {
                    return k;
                }
            }
            return NONE;
        }

        long struck(int t, int many, int s) {
            within(t, 0, 3);
            within(many, 1, 40);
            set(s);
            int k = struckAt(wayIn(t, many), s);
            need(k != NONE, 6);
            return k;
        }

        long sure(int t, int many) {
            int[] w = wayIn(t, many);
            Ratio r = Ratio.ZERO;
            for (int s = 0; s < parts.length; s++) {
                if (struckAt(w, s) == NONE) {
                    r = r.plus(Ratio.of(parts[s], 1000000));
                }
            }
            fraction = r;
            return 1;
        }

        static int lesser(List<Integer> v, List<Integer> w) {
            for (int k = 0; k < Math.min(v.size(), w.size()); k++) {
                if (!v.get(k).equals(w.get(k))) {
                    return v.get(k) - w.get(k);
                }
            }
            return v.size() - w.size();
        }

        boolean goes(int c, int a) {
            long kind = open(c);
            return kind == 2 || kind == 1 && (a >> river.barOf(c) & 1) == 1;
        }

        Route soonestWay(int from, int to, int a) {
            boolean[] free = new boolean[cells()];
            for (int c = 0; c < cells(); c++) {
                free[c] = goes(c, a);
            }
            if (!free[from] || !free[to]) {
                return null;
            }
            PriorityQueue<Route> queue = new PriorityQueue<>((v, w) ->
                    v.minutes != w.minutes ? v.minutes - w.minutes : lesser(v.cells, w.cells));
            Set<Integer> done = new HashSet<>();
            queue.add(new Route(List.of(from), 0));
            while (!queue.isEmpty()) {
                Route r = queue.poll();
                int n = r.cells.size();
                int c = r.cells.get(n - 1);
                int h = n == 1 ? 8 : heading(r.cells.get(n - 2), c);
                if (c == to) {
                    return r;
                }
                if (!done.add(c * 9 + h)) {
                    continue;
                }
                for (int d = 0; d < cells(); d++) {
                    if (free[d] && next(c, d)) {
                        List<Integer> longer = new ArrayList<>(r.cells);
                        longer.add(d);
                        queue.add(new Route(longer, minutesOf(longer)));
                    }
                }
            }
            return null;
        }

        final Map<String, Map<Integer, Route>> known = new HashMap<>();

        /** All A with a SOONEST way. */
        Map<Integer, Route> waysBetween(int from, int to) {
            String key = System.identityHashCode(river) + " " + river.stageOf(day) + " " + off + " " + from + " " + to;
            return known.computeIfAbsent(key, k -> {
                Map<Integer, Route> all = new TreeMap<>();
                for (int a = 0; a < 1 << river.bars.size(); a++) {
                    Route r = soonestWay(from, to, a);
                    if (r != null) {
                        all.put(a, r);
                    }
                }
                return all;
            });
        }

        long soonest(int from, int to, int a) {
            cell(from);
            cell(to);
            set(a);
            Route r = soonestWay(from, to, a);
            need(r != null, 6);
            way = r.cells;
            return r.minutes;
        }

        Choice choice(int from, int to, long[] p) {
            Choice best = null;
            for (Map.Entry<Integer, Route> e : waysBetween(from, to).entrySet()) {
                Ratio c = chanceOf(p, e.getKey());
                int more = best == null ? 1 : c.compareTo(best.chance);
                if (more > 0 || more == 0 && e.getValue().minutes < best.route.minutes) {
                    best = new Choice();
                    best.a = e.getKey();
                    best.chance = c;
                    best.route = e.getValue();
                }
            }
            return best;
        }

        long surest(int from, int to) {
            cell(from);
            cell(to);
            Choice c = choice(from, to, parts);
            need(c != null, 6);
            fraction = c.chance;
            way = c.route.cells;
            return c.a;
        }

        long mean(int from, int to) {
            cell(from);
            cell(to);
            Ratio best = null;
            int bestA = NONE;
            Route bestRoute = null;
            for (Map.Entry<Integer, Route> e : waysBetween(from, to).entrySet()) {
                Ratio m = Ratio.of(e.getValue().minutes, 1);
                for (int b = 0; b < river.bars.size(); b++) {
                    if ((e.getKey() >> b & 1) == 1) {
                        m = m.plus(thereOf(b).times(Ratio.of(river.boat[5], 1)));
                    }
                }
                if (best == null || m.compareTo(best) < 0) {
                    best = m;
                    bestA = e.getKey();
                    bestRoute = e.getValue();
                }
            }
            need(best != null, 6);
            fraction = best;
            way = bestRoute.cells;
            return bestA;
        }

        long length() {
            need(way != null, 6);
            return way.size();
        }

        long way(int k) {
            need(way != null && k >= 0 && k < way.size(), 6);
            return way.get(k);
        }

        // what is worth it

        Ratio bestChance(int from, int to, Ratio[] p) {
            Ratio best = Ratio.ZERO;
            for (int a : waysBetween(from, to).keySet()) {
                Ratio c = Ratio.ZERO;
                for (int s = 0; s < p.length; s++) {
                    if ((s & a) == 0) {
                        c = c.plus(p[s]);
                    }
                }
                best = c.compareTo(best) > 0 ? c : best;
            }
            return best;
        }

        Ratio[] exact() {
            Ratio[] p = new Ratio[parts.length];
            for (int s = 0; s < p.length; s++) {
                p[s] = Ratio.of(parts[s], 1000000);
            }
            return p;
        }

        Ratio worthOf(int from, int to, int k, Ratio[] p) {
            Ratio best = null;
            for (int b = 0; k > 0 && b < river.bars.size(); b++) {
                if (!river.bars.get(b).cells.isEmpty()) {
                    Ratio w = worthBy(from, to, k, p, b);
                    best = best == null || w.compareTo(best) > 0 ? w : best;
                }
            }
            return best == null ? bestChance(from, to, p) : best;
        }

        Ratio worthBy(int from, int to, int k, Ratio[] p, int b) {
            Ratio sum = Ratio.ZERO;
            for (int read = -40; read <= 40; read++) {
                Ratio all = Ratio.ZERO;
                Ratio[] q = new Ratio[p.length];
                for (int s = 0; s < p.length; s++) {
                    q[s] = p[s].times(Ratio.of(likely(river.bars.get(b).least(), s, read), 32));
                    all = all.plus(q[s]);
                }
                if (all.a.signum() > 0) {
                    for (int s = 0; s < p.length; s++) {
                        q[s] = q[s].by(all);
                    }
                    sum = sum.plus(all.times(worthOf(from, to, k - 1, q)));
                }
            }
            return sum;
        }

        long worth(int from, int to, int k) {
            cell(from);
            cell(to);
            within(k, 0, 3);
            fraction = worthOf(from, to, k, exact());
            return 1;
        }

        long nextOf(int from, int to, int k) {
            cell(from);
            cell(to);
            within(k, 1, 3);
            int first = NONE;
            Ratio best = null;
            for (int b = 0; b < river.bars.size(); b++) {
                if (!river.bars.get(b).cells.isEmpty()) {
                    Ratio w = worthBy(from, to, k, exact(), b);
                    if (best == null || w.compareTo(best) > 0) {
                        best = w;
                        first = b;
                    }
                }
            }
            need(first != NONE, 6);
            return first;
        }

        long lieTo(int from, int to, int days, int cost) {
            cell(from);
            cell(to);
            within(days, 0, 9);
            within(cost, 0, 999999);
            need(day + days <= 99, 4);
            int today = day;
            long[] now = parts.clone();
            int best = NONE;
            Ratio bestGain = null;
            Ratio bestChance = null;
            for (int k = 0; k <= days; k++) {
                Choice c = choice(from, to, parts);
                if (c != null) {
                    Ratio gain = c.chance.times(Ratio.of(1000000, 1)).plus(Ratio.of(-(long) k * cost, 1));
                    if (best == NONE || gain.compareTo(bestGain) > 0) {
                        best = k;
                        bestGain = gain;
                        bestChance = c.chance;
                    }
                }
                parts = dayOn(parts, NONE, 0);
                day++;
            }
            day = today;
            parts = now;
            need(best != NONE, 6);
            fraction = bestChance;
            return best;
        }

        long marked(int from, int to, int many) {
            cell(from);
            cell(to);
            within(many, 0, river.bars.size());
            need(!waysBetween(from, to).isEmpty(), 6);
            int best = NONE;
            Ratio most = null;
            for (int m = 0; m < parts.length; m++) {
                if (Integer.bitCount(m) == many) {
                    Map<Integer, Ratio[]> cases = new HashMap<>();
                    for (int s = 0; s < parts.length; s++) {
                        Ratio[] p = cases.computeIfAbsent(s & m, x -> {
                            Ratio[] zeros = new Ratio[parts.length];
                            Arrays.fill(zeros, Ratio.ZERO);
                            return zeros;
                        });
                        p[s] = Ratio.of(parts[s], 1000000);
                    }
                    Ratio all = Ratio.ZERO;
                    for (Ratio[] p : cases.values()) {
                        all = all.plus(bestChance(from, to, p));
                    }
                    if (best == NONE || all.compareTo(most) > 0) {
                        best = m;
                        most = all;
                    }
                }
            }
            fraction = most;
            return best;
        }

        /** The first boat's striking is judged on her way's cells, not on A. */
        long tells(int from, int to) {
            cell(from);
            cell(to);
            Choice c = choice(from, to, parts);
            need(c != null, 6);
            int[] w = c.route.cells.stream().mapToInt(x -> x).toArray();
            Ratio[] struck = new Ratio[parts.length];
            Ratio clear = Ratio.ZERO;
            for (int s = 0; s < parts.length; s++) {
                Ratio p = Ratio.of(parts[s], 1000000);
                boolean strikes = struckAt(w, s) != NONE;
                struck[s] = strikes ? p : Ratio.ZERO;
                clear = strikes ? clear : clear.plus(p);
            }
            fraction = clear.plus(bestChance(from, to, struck));
            return 1;
        }

        long dredged(int from, int to) {
            cell(from);
            cell(to);
            need(!river.bars.isEmpty() && !waysBetween(from, to).isEmpty(), 6);
            int best = NONE;
            Ratio most = null;
            for (int b = 0; b < river.bars.size(); b++) {
                long[] p = new long[parts.length];
                for (int s = 0; s < parts.length; s++) {
                    p[s & ~(1 << b)] += parts[s];
                }
                Ratio c = choice(from, to, p).chance;
                if (most == null || c.compareTo(most) > 0) {
                    best = b;
                    most = c;
                }
            }
            fraction = most;
            return best;
        }

        long brush(int from, int to, int b, int more, int days) {
            cell(from);
            cell(to);
            barNumber(b);
            within(more, 0, 16);
            within(days, 1, 9);
            need(day + days <= 99, 4);
            long[] p = parts;
            for (int k = 0; k < days; k++) {
                p = dayOn(p, b, more);
            }
            day += days;
            Choice c = choice(from, to, p);
            day -= days;
            need(c != null, 6);
            fraction = c.chance;
            return 1;
        }

        long lighten(int from, int to, int n) {
            cell(from);
            cell(to);
            within(n, 1, 16);
            int was = off;
            for (off = 0; off <= river.boat[1]; off++) {
                Choice c = choice(from, to, parts);
                if (c != null && c.chance.compareTo(Ratio.of(n, 16)) >= 0) {
                    int least = off;
                    off = was;
                    return least;
                }
            }
            off = was;
            throw new Status(6);
        }

        // pilots

        long play(int from, int to, int seed) {
            cell(from);
            cell(to);
            within(seed, 0, 9999);
            Play p = new Play(this, from, to, seed);
            int how = p.run();
            played = new int[] {p.minutes, p.steps, p.soundings, p.days, p.truth, p.went, p.left};
            return how;
        }

        long played(int what) {
            within(what, 0, 6);
            need(played != null, 6);
            return played[what];
        }

        long tally(int from, int to, int seed, int many, int how) {
            cell(from);
            cell(to);
            within(seed, 0, 9999);
            within(many, 1, 30);
            within(how, 0, 3);
            need(seed + many - 1 <= 9999, 1);
            long n = 0;
            for (int k = 0; k < many; k++) {
                n += new Play(this, from, to, seed + k).run() == how ? 1 : 0;
            }
            return n;
        }

        long mark() {
            need(marks.size() < 3, 4);
            marks.push(new Object[] {river, rule, day, off, parts.clone()});
            return marks.size();
        }

        long back() {
            need(!marks.isEmpty(), 6);
            Object[] m = marks.pop();
            river = (River) m[0];
            rule = (Step) m[1];
            day = (Integer) m[2];
            off = (Integer) m[3];
            parts = (long[]) m[4];
            return marks.size();
        }
    }

    private static final class Over extends RuntimeException {
        final int how;

        Over(int how) {
            this.how = how;
        }
    }

    /** A RULE played, by a walk down its tree. */
    private static final class Play {
        final Model m;
        final int from;
        final int to;
        int s;
        int minutes = 0;
        int steps = 0;
        int soundings = 0;
        int days = 0;
        int truth = 0;
        int went = NONE;
        int left = 0;

        Play(Model m, int from, int to, int seed) {
            this.m = m;
            this.from = from;
            this.to = to;
            s = seed;
        }

        int draw(int n) {
            s = (int) ((s * 3541L + 8713) % 65536);
            return s / 8 % n;
        }

        int run() {
            int day = m.day;
            int off = m.off;
            long[] parts = m.parts.clone();
            int how = 3;
            try {
                int d = draw(1000);
                long sum = 0;
                truth = NONE;
                for (int k = 0; k < parts.length && truth == NONE; k++) {
                    sum += parts[k];
                    truth = sum / 1000 > d ? k : NONE;
                }
                truth = truth == NONE ? parts.length - 1 : truth;
                all(m.rule.inner);
            } catch (Over o) {
                how = o.how;
            }
            m.day = day;
            m.off = off;
            m.parts = parts;
            return how;
        }

        void all(List<Step> list) {
            for (Step step : list) {
                if (steps == 100) {
                    left = 1;
                    throw new Over(3);
                }
                steps++;
                one(step);
            }
        }

        boolean is(int bar) {
            return (truth >> bar & 1) == 1;
        }

        void one(Step t) {
            boolean hasBar = t.bar >= 0 && t.bar < m.river.bars.size();
            Bar bar = hasBar ? m.river.bars.get(t.bar) : null;
            switch (t.what) {
                case "sound" -> {
                    if (hasBar && !bar.cells.isEmpty()) {
                        minutes += 30;
                        soundings++;
                        int d = draw(32);
                        int depth = m.river.depth(bar.least(), truth, m.day);
                        int p = m.river.pole;
                        m.hear(bar.least(), d < 2 * p ? depth : d < 16 + p ? depth + 1 : depth - 1);
                    }
                }
                case "colour" -> {
                    if (hasBar && !bar.cells.isEmpty()) {
                        minutes += 5;
                        boolean right = draw(16) < m.river.colour;
                        m.see(bar.least(), right ? is(t.bar) : !is(t.bar));
                    }
                }
                case "wait" -> {
                    for (int k = 0; k < t.n; k++) {
                        minutes += 1440;
                        days++;
                        m.day++;
                        for (int b = 0; b < m.river.bars.size(); b++) {
                            Bar x = m.river.bars.get(b);
                            if (draw(16) < (is(b) ? x.goes : x.comes)) {
                                truth ^= 1 << b;
                            }
                        }
                        m.parts = m.dayOn(m.parts, NONE, 0);
                    }
                }
                case "off" -> {
                    int n = Math.min(t.n, m.river.boat[1]);
                    minutes += 20 * Math.max(0, n - m.off);
                    m.off = Math.max(m.off, n);
                }
                case "there" -> {
                    if (hasBar && m.thereOf(t.bar).compareTo(Ratio.of(t.n, 16)) >= 0) {
                        all(t.inner);
                    }
                }
                case "gone" -> {
                    if (hasBar && m.thereOf(t.bar).compareTo(Ratio.of(t.n, 16)) <= 0) {
                        all(t.inner);
                    }
                }
                case "sure" -> {
                    Choice c = m.choice(from, to, m.parts);
                    if (c != null && c.chance.compareTo(Ratio.of(t.n, 16)) >= 0) {
                        all(t.inner);
                    }
                }
                case "loop" -> {
                    for (int k = 0; k < t.n; k++) {
                        all(t.inner);
                    }
                }
                case "go" -> {
                    Choice c = m.choice(from, to, m.parts);
                    if (c == null) {
                        throw new Over(2);
                    }
                    went = c.a;
                    minutes += c.route.minutes + m.river.boat[5] * Integer.bitCount(c.a & truth);
                    int[] w = c.route.cells.stream().mapToInt(x -> x).toArray();
                    throw new Over(m.struckAt(w, truth) == NONE ? 0 : 1);
                }
                default -> throw new Over(3);
            }
        }
    }

    // ------------------------------------------------------------------ the driver

    private interface Call {
        long get();
    }

    private static final class Driver {
        final Random random;
        final String run;
        final PoleRiver x = new PoleRiver();
        final Model m = new Model();
        final StringBuilder log = new StringBuilder();
        // what is answered behind the 512th is free
        int calls = 0;

        Driver(Random random, String run) {
            this.random = random;
            this.run = run;
        }

        int up(int n) {
            return random.nextInt(n);
        }

        int between(int a, int b) {
            return a + up(b - a + 1);
        }

        boolean due(int one, int of) {
            return up(of) < one;
        }

        void same(String call, long got, long want) {
            calls++;
            if (got != want) {
                wrong++;
                System.out.println(run + ": " + call + " answered " + got + ", the model " + want);
                if (wrong < 3) {
                    System.out.println(log);
                }
            }
        }

        /** One call on both; the model's STATUS is what its exception tells. */
        void both(String call, long got, Call model, boolean isBoolean) {
            log.append("  ").append(call).append(" -> ").append(got).append('\n');
            compared++;
            long want;
            try {
                want = model.get();
                m.status = 0;
            } catch (Status s) {
                want = isBoolean ? 0 : NONE;
                m.status = s.status;
            }
            String name = call.substring(0, call.indexOf('('));
            seen.computeIfAbsent(name, k -> new int[10])[m.status]++;
            same(call, got, want);
            same(call + " status()", x.status(), m.status);
            same(call + " top()", x.top(), m.fraction.a.longValue());
            same(call + " bottom()", x.bottom(), m.fraction.b.longValue());
        }

        void number(String call, long got, Call model) {
            both(call, got, model, false);
        }

        void truth(String call, boolean got, Call model) {
            both(call, got ? 1 : 0, model, true);
        }

        void feedAll(String text) {
            byte[] bytes = new byte[(text.length() + 19) / 20 * 20];
            for (int k = 0; k < text.length(); k++) {
                bytes[k] = (byte) text.charAt(k);
            }
            for (int k = 0; k < bytes.length; k += 20) {
                int[] v = new int[5];
                for (int j = 0; j < 20; j++) {
                    v[j / 4] = v[j / 4] << 8 | bytes[k + j] & 255;
                }
                same("feed", x.feed(v[0], v[1], v[2], v[3], v[4]), m.feed(v));
            }
        }

        void takeText(boolean isRiver, String text) {
            feedAll(text);
            int n = due(1, 30) ? text.length() + between(-5, 30) : text.length();
            log.append("  text: ").append(text).append('\n');
            if (isRiver) {
                number("river(" + n + ")", x.river(n), () -> m.river(n));
            } else {
                number("rule(" + n + ")", x.rule(n), () -> m.rule(n));
            }
            faults();
        }

        void faults() {
            for (int k = -1; k < 3; k++) {
                same("fault " + k, x.fault(k), k == 0 ? m.fault : k == 1 ? m.place : NONE);
            }
            if (m.status == 9) {
                seen.computeIfAbsent("FAULT", k -> new int[10])[m.fault]++;
            }
            if (m.tape.size() > 0 && m.status == 1) {
                number("river(0)", x.river(0), () -> m.river(0));
            }
        }

        String gap() {
            return due(1, 40) ? "\n " : "";
        }

        String name(int k) {
            String[] names = {"a", "there", "gone", "sound", "abcdefgh"};
            return names[k];
        }

        String riverText() {
            int w = due(1, 8) ? between(7, 10) : between(2, 5);
            int h = due(1, 8) ? 6 : between(2, 4);
            int draft = due(1, 20) ? between(1, 20) : between(3, 6);
            StringBuilder t = new StringBuilder("size " + w + " " + h + gap() + ";");
            int rows = due(1, 15) ? up(h + 1) : h;
            for (int y = 0; y < rows; y++) {
                t.append("row");
                for (int k = 0; k < w; k++) {
                    int d = due(1, 4) ? between(0, draft) : Math.min(20, between(draft, draft + 5));
                    t.append(gap()).append(' ').append(d);
                }
                t.append(";");
            }
            int bars = up(6);
            for (int b = 0; b < bars; b++) {
                t.append("bar ").append(name(b)).append(" takes ").append(due(1, 3) ? between(1, 2) : between(1, 9));
                t.append(" chance ").append(sixteenths()).append(" goes ").append(sixteenths());
                t.append(" comes ").append(sixteenths()).append(gap()).append(";");
            }
            places(t, w, h, bars);
            if (due(2, 3)) {
                t.append("stage");
                int days = between(1, 12);
                for (int k = 0; k < days; k++) {
                    t.append(due(1, 3) ? " less " : " ").append(due(3, 4) ? up(3) : up(10));
                }
                t.append(";");
            }
            if (due(4, 5)) {
                t.append("boat draft ").append(draft).append(" load ").append(up(Math.min(9, draft - 1) + 1));
                t.append(" straight ").append(few(1)).append(" slant ").append(few(1)).append(" turn ");
                t.append(few(0)).append(" lost ").append(due(1, 3) ? up(1000) : up(60)).append(";");
            }
            if (due(2, 3)) {
                t.append("pole ").append(due(1, 3) ? (up(2) * 16) : up(17)).append(";");
            }
            if (due(2, 3)) {
                t.append("colour ").append(due(1, 3) ? (up(2) * 16) : up(17)).append(";");
            }
            return t.toString();
        }

        int few(int least) {
            return due(1, 3) ? between(least, 99) : between(least, 3);
        }

        int sixteenths() {
            return due(1, 4) ? 16 * up(2) : up(17);
        }

        void places(StringBuilder t, int w, int h, int bars) {
            boolean[] taken = new boolean[w * h];
            for (int k = 0; bars > 0 && k < 9; k++) {
                int x1 = up(w);
                int y1 = up(h);
                int x2 = Math.min(w - 1, x1 + up(2));
                int y2 = Math.min(h - 1, y1 + up(3));
                boolean free = true;
                for (int c = 0; c < w * h; c++) {
                    free &= !taken[c] || c % w < x1 || c % w > x2 || c / w < y1 || c / w > y2;
                }
                if (free) {
                    for (int c = 0; c < w * h; c++) {
                        taken[c] |= c % w >= x1 && c % w <= x2 && c / w >= y1 && c / w <= y2;
                    }
                    t.append("at ").append(name(up(bars))).append(" ").append(x1).append(" ").append(y1);
                    t.append(" to ").append(x2).append(" ").append(y2).append(";");
                }
            }
        }

        String ruleText() {
            StringBuilder t = new StringBuilder();
            steps(t, 0, between(1, 6));
            if (due(2, 3)) {
                t.append("go;");
            }
            return t.length() > 290 ? "go;" : t.toString();
        }

        void steps(StringBuilder t, int deep, int many) {
            int bars = Math.max(1, m.river.bars.size());
            for (int k = 0; k < many; k++) {
                String name = name(up(bars));
                switch (up(deep < 3 ? 9 : 6)) {
                    case 0, 1 -> t.append("sound ").append(name).append(";");
                    case 2 -> t.append("colour ").append(name).append(gap()).append(";");
                    case 3 -> t.append("wait ").append(between(1, 9)).append(";");
                    case 4 -> t.append("off ").append(up(10)).append(";");
                    case 5 -> t.append(due(1, 4) ? "stop;" : due(1, 3) ? "go;" : "wait 1;");
                    case 6 -> {
                        t.append("loop ").append(between(1, 9)).append(";");
                        steps(t, deep + 1, up(4));
                        t.append("end;");
                    }
                    default -> {
                        String[] what = {"there " + name, "gone " + name, "sure"};
                        t.append("when ").append(what[up(3)]).append(" ").append(up(17)).append(";");
                        steps(t, deep + 1, up(4));
                        t.append("end ;");
                    }
                }
            }
        }

        String spoil(String text) {
            String[] bits = {"size", "row", "bar", "takes", "chance", "goes", "comes", "at", "to", "stage",
                "less", "boat", "draft", "load", "straight", "slant", "turn", "lost", "pole", "colour",
                ";", "0", "1", "2", "7", "9", "10", "16", "17", "20", "21", "99", "100", "9999", "12345",
                "a", "there", "abcdefghi", "end", "when", "loop", "go", "sound", "sure", "#", "A", "\u00e9",
                "\t", "\n", "wait", "off", "stop", "gone", "00004", "0004"};
            String[] tokens = text.split("(?<=;)|(?=;)|(?<= )|(?= )");
            List<String> list = new ArrayList<>(Arrays.asList(tokens));
            int times = between(1, 2);
            for (int k = 0; k < times && !list.isEmpty(); k++) {
                int p = up(list.size());
                switch (up(6)) {
                    case 0 -> list.remove(p);
                    case 1 -> list.add(p, " " + bits[up(bits.length)] + " ");
                    case 2 -> list.set(p, bits[up(bits.length)]);
                    case 3 -> list.add(p, list.get(up(list.size())));
                    case 4 -> list = new ArrayList<>(list.subList(0, p));
                    default -> {
                        int a = text.indexOf(';', up(text.length()));
                        int b = text.indexOf(';', a + 1);
                        if (a >= 0 && b > a) {
                            list.add(text.substring(a + 1, b + 1));
                        }
                    }
                }
            }
            String joined = String.join("", list);
            return joined.length() > 880 ? joined.substring(0, 880) : joined;
        }

        /** Texts alone, most of them with a FAULT. */
        void runTexts() {
            for (int k = 0; k < 20 && wrong < 10 && calls < MOST_CALLS; k++) {
                log.setLength(0);
                String text = riverText();
                takeText(true, due(1, 8) ? text : spoil(text));
                String rule = due(1, 5) ? manySteps() : ruleText();
                String spoiled = due(1, 8) ? rule : spoil(rule);
                takeText(false, spoiled.length() > 300 ? spoiled.substring(0, 300) : spoiled);
            }
        }

        String manySteps() {
            StringBuilder t = new StringBuilder();
            int many = between(28, 32);
            for (int k = 0; k < many; k++) {
                t.append(due(1, 6) ? "loop 1;" : due(1, 5) ? "end;" : "go;");
            }
            return t.toString();
        }

        int cell() {
            return due(1, 25) ? between(-1, 60) : up(Math.max(1, m.cells()));
        }

        int set() {
            return due(1, 25) ? between(-1, 33) : up(1 << m.river.bars.size());
        }

        int bar() {
            return due(1, 15) ? between(-1, 5) : up(Math.max(1, m.river.bars.size()));
        }

        int about(int least, int most) {
            return due(1, 20) ? between(least - 2, most + 2) : between(least, most);
        }

        void run() {
            if (due(19, 20)) {
                takeText(true, riverText());
            }
            if (due(9, 10)) {
                takeText(false, ruleText());
            }
            int late = due(1, 5) ? up(11) : 0;
            for (int k = 0; k < late; k++) {
                number("pass(9)", x.pass(9), () -> m.pass(9));
            }
            for (int k = 0; k < 110 && wrong < 10 && calls < MOST_CALLS; k++) {
                switch (up(5)) {
                    case 0 -> trayOrText();
                    case 1 -> looks();
                    case 2 -> thoughts();
                    case 3 -> ways();
                    default -> worths();
                }
            }
        }

        void trayOrText() {
            int t = about(0, 3);
            int u = due(1, 2) ? t : about(0, 3);
            int p = about(0, 10);
            int q = about(0, 10);
            int n = about(0, 10);
            switch (up(9)) {
                case 0, 1 -> {
                    int sort = due(1, 2) ? 1 : about(0, 3);
                    int many = due(1, 10) ? between(-1, 62) : n;
                    truth("tray(" + t + "," + sort + "," + many + ")", x.tray(t, sort, many), () -> m.tray(t, sort, many));
                }
                case 2, 3 -> {
                    long v = due(1, 2) ? random.nextLong() : up(300) - 100;
                    truth("write(" + t + "," + p + "," + v + ")", x.write(t, p, v), () -> m.write(t, p, v));
                }
                case 4, 5 -> number("read(" + t + "," + p + ")", x.read(t, p), () -> m.read(t, p));
                case 6 -> truth("pour(" + t + "," + p + "," + u + "," + q + "," + n + ")", x.pour(t, p, u, q, n),
                        () -> m.pour(t, p, u, q, n));
                case 7 -> takeText(false, due(1, 6) ? spoil(ruleText()) : ruleText());
                default -> {
                    if (due(1, 6)) {
                        String text = riverText();
                        takeText(true, due(1, 3) ? spoil(text) : text);
                    } else if (due(1, 2)) {
                        number("mark()", x.mark(), m::mark);
                    } else {
                        number("back()", x.back(), m::back);
                    }
                }
            }
        }

        void looks() {
            int c = cell();
            int s = set();
            int b = bar();
            int w = about(0, 12);
            int v = about(0, 5);
            int day = due(1, 5) ? about(90, 99) : up(15);
            switch (up(8)) {
                case 0 -> number("told(" + w + ")", x.told(w), () -> m.told(w));
                case 1 -> number("bar(" + b + "," + v + ")", x.bar(b, v), () -> m.bar(b, v));
                case 2 -> number("barOf(" + c + ")", x.barOf(c), () -> m.barOf(c));
                case 3 -> number("stage(" + day + ")", x.stage(day), () -> m.stage(day));
                case 4 -> number("depth(" + c + "," + s + ")", x.depth(c, s), () -> m.depth(c, s));
                case 5 -> number("part(" + s + ")", x.part(s), () -> m.part(s));
                case 6 -> truth("there(" + b + ")", x.there(b), () -> m.there(b));
                default -> number("open(" + c + ")", x.open(c), () -> m.open(c));
            }
        }

        void thoughts() {
            int c = cell();
            int s = set();
            switch (up(8)) {
                case 0 -> truth("chance(" + s + ")", x.chance(s), () -> m.chance(s));
                case 1 -> {
                    int d = due(1, 3) ? about(1, 9) : 1;
                    number("pass(" + d + ")", x.pass(d), () -> m.pass(d));
                }
                case 2, 3 -> {
                    int at = m.cells() > 0 && c >= 0 && c < m.cells() ? m.river.depth(c, up(m.parts.length), m.day) : 4;
                    int r = due(1, 10) ? about(-9, 30) : at + between(-1, 1);
                    truth("sound(" + c + "," + r + ")", x.sound(c, r), () -> m.sound(c, r));
                }
                case 4, 5 -> {
                    boolean there = due(1, 2);
                    truth("colour(" + c + "," + there + ")", x.colour(c, there), () -> m.colour(c, there));
                }
                case 6 -> {
                    int n = due(1, 5) ? about(0, 9) : up(m.river.boat[1] + 1);
                    truth("off(" + n + ")", x.off(n), () -> m.off(n));
                }
                default -> {
                    if (due(1, 3)) {
                        truth("forget()", x.forget(), m::forget);
                    }
                }
            }
        }

        void wayToTray(int t) {
            if (t < 0 || t > 3 || m.cells() == 0) {
                return;
            }
            int many = between(1, 8);
            int sort = up(4);
            truth("tray(" + t + ")", x.tray(t, sort, many), () -> m.tray(t, sort, many));
            int c = up(m.cells());
            for (int k = 0; k < many; k++) {
                int here = c;
                int p = k;
                truth("write(" + t + "," + k + "," + c + ")", x.write(t, p, here), () -> m.write(t, p, here));
                List<Integer> beside = new ArrayList<>();
                for (int d = 0; d < m.cells(); d++) {
                    if (m.next(c, d)) {
                        beside.add(d);
                    }
                }
                c = due(1, 60) ? up(70) - 3 : beside.get(up(beside.size()));
                c = c < 0 || c >= m.cells() ? up(m.cells()) : c;
            }
        }

        void ways() {
            int t = due(1, 20) ? about(0, 3) : up(2);
            int many = due(1, 10) ? about(1, 40) : between(1, 8);
            int s = set();
            int a = cell();
            int b = cell();
            switch (up(8)) {
                case 0 -> wayToTray(t);
                case 1 -> number("minutes(" + t + "," + many + ")", x.minutes(t, many), () -> m.minutes(t, many));
                case 2 -> number("struck(" + t + "," + many + "," + s + ")", x.struck(t, many, s), () -> m.struck(t, many, s));
                case 3 -> truth("sure(" + t + "," + many + ")", x.sure(t, many), () -> m.sure(t, many));
                case 4, 5 -> {
                    number("soonest(" + a + "," + b + "," + s + ")", x.soonest(a, b, s), () -> m.soonest(a, b, s));
                    wholeWay();
                }
                case 6 -> {
                    number("surest(" + a + "," + b + ")", x.surest(a, b), () -> m.surest(a, b));
                    wholeWay();
                }
                default -> {
                    number("mean(" + a + "," + b + ")", x.mean(a, b), () -> m.mean(a, b));
                    wholeWay();
                }
            }
        }

        void wholeWay() {
            number("length()", x.length(), m::length);
            int most = m.way == null ? 0 : m.way.size();
            for (int k = -1; k <= most; k++) {
                int at = k;
                number("way(" + k + ")", x.way(at), () -> m.way(at));
            }
        }

        void worths() {
            int a = cell();
            int b = cell();
            String ends = a + "," + b;
            int seed = due(1, 15) ? about(9980, 9999) : up(10000);
            int days = about(0, 9);
            int bar = bar();
            int depth = m.river.bars.size() > 2 ? 1 : m.river.bars.size() > 1 ? 2 : 3;
            int k = due(1, 20) ? between(-1, 4) : up(depth + 1);
            int k2 = k == 3 && m.river.bars.size() > 2 ? 2 : k;
            switch (up(11)) {
                case 0 -> truth("worth(" + ends + "," + k2 + ")", x.worth(a, b, k2), () -> m.worth(a, b, k2));
                case 1 -> number("next(" + ends + "," + k2 + ")", x.next(a, b, k2), () -> m.nextOf(a, b, k2));
                case 2 -> {
                    int cost = due(1, 15) ? between(-1, 1) + 999999 * up(2) : up(100000) / (1 + up(100));
                    number("lieTo(" + ends + "," + days + "," + cost + ")", x.lieTo(a, b, days, cost),
                            () -> m.lieTo(a, b, days, cost));
                }
                case 3 -> {
                    int many = due(1, 10) ? about(0, 5) : up(m.river.bars.size() + 1);
                    number("marked(" + ends + "," + many + ")", x.marked(a, b, many), () -> m.marked(a, b, many));
                }
                case 4 -> truth("tells(" + ends + ")", x.tells(a, b), () -> m.tells(a, b));
                case 5 -> number("dredged(" + ends + ")", x.dredged(a, b), () -> m.dredged(a, b));
                case 6 -> {
                    int more = about(0, 16);
                    truth("brush(" + ends + "," + bar + "," + more + "," + days + ")", x.brush(a, b, bar, more, days),
                            () -> m.brush(a, b, bar, more, days));
                }
                case 7 -> {
                    int n = about(1, 16);
                    number("lighten(" + ends + "," + n + ")", x.lighten(a, b, n), () -> m.lighten(a, b, n));
                }
                case 8, 9 -> {
                    number("play(" + ends + "," + seed + ")", x.play(a, b, seed), () -> m.play(a, b, seed));
                    for (int w = -1; w < 8; w++) {
                        int what = w;
                        number("played(" + w + ")", x.played(what), () -> m.played(what));
                    }
                    if (m.played != null && m.status == 0) {
                        seen.computeIfAbsent("LEFT", z -> new int[10])[m.played[6]]++;
                    }
                }
                default -> {
                    int many = due(1, 10) ? about(1, 30) : between(1, 5);
                    int how = about(0, 3);
                    number("tally(" + ends + "," + seed + "," + many + "," + how + ")", x.tally(a, b, seed, many, how),
                            () -> m.tally(a, b, seed, many, how));
                }
            }
        }
    }
}
