import java.io.IOException;
import java.nio.charset.StandardCharsets;
import java.nio.file.Files;
import java.nio.file.Path;
import java.util.Set;
import java.util.TreeSet;

/** What the tests share: answers held against what is due, texts fed, and where the document says so. */
class Due {
    private static final Path DOCUMENT = Path.of("..", "shared", "DOC.md");
    private static final Set<String> TESTED = new TreeSet<>();
    private static final String ALL = readDocument();
    private static String part = ALL;
    private static String sentence = "";
    private static int wrong = 0;

    private static String readDocument() {
        try {
            return Files.exists(DOCUMENT) ? Files.readString(DOCUMENT, StandardCharsets.UTF_8) : "";
        } catch (IOException e) {
            return "";
        }
    }

    // ---- the document

    /** What follows is of these Terms (1 to 5). */
    static void terms(int k) {
        open("Terms " + k, "==== " + k + ". ", k < 5 ? "==== " + (k + 1) + ". " : "The constants:");
    }

    /** What follows is of this promise. */
    static void promise(int k) {
        open("Promise " + k, "## Promise " + k + ": ", "## ");
    }

    /** What follows is of the document, but of no Terms and no promise. */
    static void document(String name) {
        TESTED.add(name);
        sentence = "";
        part = ALL;
    }

    private static void open(String name, String begin, String end) {
        TESTED.add(name);
        sentence = "";
        int from = ALL.indexOf(begin);
        int to = ALL.indexOf(end, Math.max(0, from + begin.length()));
        part = from < 0 ? "" : ALL.substring(from, to < 0 ? ALL.length() : to);
        due("the document has " + name, !ALL.isEmpty() && part.isEmpty(), false);
    }

    /** The words of the document whose test follows: they must stand in the part that is open. */
    static void says(String words) {
        sentence = words;
        due("the document says so", ALL.isEmpty() || part.contains(words), true);
    }

    /** Each of these promises must have been opened. */
    static void allTested(int first, int last) {
        for (int k = first; k <= last; k++) {
            due("a test of promise " + k, TESTED.contains("Promise " + k), true);
        }
    }

    static void finish() {
        System.out.println(wrong == 0 ? "all answers are as due" : wrong + " answers are not as due");
        System.exit(wrong == 0 ? 0 : 1);
    }

    // ---- answers

    static void due(String what, long got, long want) {
        if (got != want) {
            wrong++;
            String why = sentence.isEmpty() ? "" : " [" + sentence + "]";
            System.out.println(what + ": answered " + got + ", due is " + want + why);
        }
    }

    static void due(String what, boolean got, boolean want) {
        due(what, got ? 1 : 0, want ? 1 : 0);
    }

    /** A call without an answer: NONE, and its STATUS. */
    static void none(String what, PoleRiver x, long got, int status) {
        due(what, got, PoleRiver.NONE);
        due(what + " status", x.status(), status);
    }

    static void refused(String what, PoleRiver x, boolean got, int status) {
        due(what, got, false);
        due(what + " status", x.status(), status);
    }

    static void well(String what, PoleRiver x, long got, long want) {
        due(what, got, want);
        due(what + " status", x.status(), 0);
    }

    static void agreed(String what, PoleRiver x, boolean got) {
        due(what, got, true);
        due(what + " status", x.status(), 0);
    }

    static void fraction(String what, PoleRiver x, long top, long bottom) {
        due(what + " top", x.top(), top);
        due(what + " bottom", x.bottom(), bottom);
    }

    // ---- texts

    static void feed(PoleRiver x, String text) {
        for (int k = 0; k < text.length(); k += 20) {
            int[] v = new int[5];
            for (int j = 0; j < 20; j++) {
                int c = k + j < text.length() ? text.charAt(k + j) & 255 : 0;
                v[j / 4] = v[j / 4] << 8 | c;
            }
            x.feed(v[0], v[1], v[2], v[3], v[4]);
        }
    }

    static int river(PoleRiver x, String text) {
        feed(x, text);
        return x.river(text.length());
    }

    static int rule(PoleRiver x, String text) {
        feed(x, text);
        return x.rule(text.length());
    }

    /** A new object with this RIVER, which must be taken. */
    static PoleRiver on(String text) {
        PoleRiver x = new PoleRiver();
        due("river: " + text, river(x, text) > 0, true);
        due("river: " + text + " status", x.status(), 0);
        return x;
    }

    static void riverFault(String text, int kind, int place) {
        PoleRiver x = new PoleRiver();
        none("river " + text, x, river(x, text), 9);
        due("fault of " + text, x.fault(0), kind);
        due("its place in " + text, x.fault(1), place);
    }

    static void ruleFault(String river, String text, int kind, int place) {
        PoleRiver x = on(river);
        none("rule " + text, x, rule(x, text), 9);
        due("fault of " + text, x.fault(0), kind);
        due("its place in " + text, x.fault(1), place);
    }

    static void ruleTaken(String river, String text, int steps) {
        PoleRiver x = on(river);
        well("rule " + text, x, rule(x, text), steps);
        due("no fault of " + text, x.fault(0), 0);
    }

    // ---- ways

    /** A TRAY of such a sort with these numbers. */
    static void lay(PoleRiver x, int tray, int sort, long... numbers) {
        x.tray(tray, sort, numbers.length);
        for (int k = 0; k < numbers.length; k++) {
            x.write(tray, k, numbers[k]);
        }
    }

    /** The way kept latest must have these CELLS. */
    static void kept(String what, PoleRiver x, int... cells) {
        well(what + " length", x, x.length(), cells.length);
        for (int k = 0; k < cells.length; k++) {
            well(what + " cell " + k, x, x.way(k), cells[k]);
        }
    }
}
