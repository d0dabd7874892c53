import java.io.IOException;
import java.nio.file.Files;
import java.nio.file.Path;
import java.util.Arrays;
import java.util.function.LongSupplier;

/**
 * What the tests of boundaries share. Each of them names a promise and the words of the document that it holds
 * the class to; the words are looked up in the promise's own section and in the terms that all promises share.
 */
abstract class Sentences {
    static final int UNKNOWN = -1;
    static final int OUTSIDE = -2;
    static final int STATE = -3;
    static final int FULL = -4;
    static final int GIVES_UP = -5;
    static final int SPENT = -6;
    static final int NONE = -9;
    static final long NO_SIGN = Long.MIN_VALUE;
    static final int MIN = Integer.MIN_VALUE;
    static final int MAX = Integer.MAX_VALUE;
    static final long STRIDE = -7046029254386353131L;

    private static final int PROMISES = 24;
    // more signs than any case has
    private static final int SIGNS = 2000;
    private static final String DOCUMENT = read();

    private static final int[] sentences = new int[PROMISES + 1];
    private static String at = "ahead of any sentence";
    private static int begun = 0;
    private static int asked = 0;
    private static int askedBefore = 0;
    private static int wrong = 0;

    /** One call of a bench. */
    interface Call {
        long on(CaseTrials x);
    }

    /** The document in one line; where it is not beside the checkout, its words are not looked up. */
    private static String read() {
        try {
            return Files.readString(Path.of("../shared/DOC.md")).replaceAll("\\s+", " ");
        } catch (IOException e) {
            System.out.println("there is no ../shared/DOC.md");
            return "";
        }
    }

    private static String section(String from, String to) {
        int start = DOCUMENT.indexOf(from);
        int end = start < 0 ? -1 : DOCUMENT.indexOf(to, start);
        return end < 0 ? "" : DOCUMENT.substring(start, end);
    }

    /** From here on the calls are held to these words of the document, as a promise bears them out. */
    static void of(int promise, String words) {
        endSentence();
        at = "promise " + promise + ", \"" + words + "\"";
        askedBefore = asked;
        begun++;
        sentences[promise]++;
        String next = promise == PROMISES ? "## Not promised" : "## Promise " + (promise + 1) + ":";
        if (!DOCUMENT.isEmpty() && !section("## Terms", "## Promise 1:").contains(words)
                && !section("## Promise " + promise + ":", next).contains(words)) {
            fault("the document has no such words");
        }
    }

    private static void endSentence() {
        if (begun > 0 && asked == askedBefore) {
            fault("nothing was asked");
        }
    }

    private static void fault(String what) {
        wrong++;
        System.out.println(at + ": " + what);
    }

    /** Each of the promises must have had a sentence; ends the program with 1 if anything was wrong. */
    static void end(int... promises) {
        endSentence();
        at = "the whole";
        for (int promise : promises) {
            if (sentences[promise] == 0) {
                fault("no sentence of promise " + promise);
            }
        }
        System.out.println(begun + " sentences of promises " + Arrays.toString(promises) + ", " + asked
                + " answers asked, " + wrong + " wrong");
        if (wrong != 0) {
            System.exit(1);
        }
    }

    static void due(String call, long got, long want) {
        asked++;
        if (got != want) {
            fault(call + " answered " + got + ", due is " + want);
        }
    }

    static void same(String what, String got, String want) {
        asked++;
        if (!got.equals(want)) {
            fault(what + ": " + got + ", due is " + want);
        }
    }

    /** The call is refused with this answer, and changes nothing. */
    static void refused(CaseTrials x, String call, LongSupplier answer, long want) {
        String before = state(x);
        due(call, answer.getAsLong(), want);
        same(call + " changes nothing", state(x), before);
    }

    /** All that a bench tells of itself without a change. */
    static String state(CaseTrials x) {
        StringBuilder out = new StringBuilder("effort ").append(x.effort());
        for (int what = 0; what < 4; what++) {
            out.append(" told ").append(x.told(what));
        }
        for (int what = 0; what < 8; what++) {
            out.append(" ran ").append(x.ran(what));
        }
        for (int m = 0; m < 30 && m < x.told(0); m++) {
            out.append(" maker ").append(x.maker(m, 0)).append(' ').append(x.maker(m, 1)).append(' ')
                    .append(x.maker(m, 2));
        }
        for (int c = 0; c < 40 && c < x.told(1); c++) {
            out.append(" holds ").append(x.holds(c));
        }
        for (int i = 0; i < SIGNS && x.sign(i) != NO_SIGN; i++) {
            out.append(" sign ").append(x.sign(i));
        }
        return out.toString();
    }

    // ---- cases

    static void dueCase(String what, CaseTrials x, String want) {
        same(what + ": the shown case", shown(x), want);
    }

    /** The shown case, written out: a leaf as its number, a row in brackets. */
    static String shown(CaseTrials x) {
        StringBuilder out = new StringBuilder();
        int end = write(x, 0, out);
        return x.sign(end) == NO_SIGN ? out.toString() : out + " and more signs";
    }

    private static int write(CaseTrials x, int from, StringBuilder out) {
        if (x.sign(from) == NO_SIGN || from > SIGNS) {
            out.append("nothing");
            return from;
        }
        if (x.sign(from) == 0) {
            out.append(x.sign(from + 1));
            return from + 2;
        }
        long n = x.sign(from + 1);
        int next = from + 2;
        out.append('[');
        for (int i = 0; i < n && i < SIGNS; i++) {
            out.append(i > 0 ? " " : "");
            next = write(x, next, out);
        }
        out.append(']');
        return next;
    }

    /** A maker of a case with just these leaves, in pairs within pairs. */
    static int fixed(CaseTrials x, int... leaves) {
        int n = leaves.length;
        int[] makers = new int[n];
        for (int i = 0; i < n; i++) {
            int same = 0;
            while (leaves[same] != leaves[i]) {
                same++;
            }
            makers[i] = same < i ? makers[same] : x.whole(leaves[i], leaves[i]);
        }
        int maker = makers[n - 1];
        for (int i = n - 2; i >= 0; i--) {
            maker = x.pair(makers[i], maker);
        }
        return maker;
    }

    /** A new bench that shows a case with just these leaves. */
    static CaseTrials showing(int... leaves) {
        CaseTrials x = new CaseTrials();
        int maker = leaves.length == 0 ? x.listOf(x.whole(0, 0), 1) : fixed(x, leaves);
        x.make(maker, 0, leaves.length == 0 ? 0 : 24);
        return x;
    }

    static int holdsOf(int kind, int a, int b, int... leaves) {
        CaseTrials x = showing(leaves);
        return x.holds(x.check(kind, a, b));
    }

    /** All smaller cases of what a maker makes of a seed, one behind another, up to the 21st. */
    static String smallerOnes(CaseTrials x, int maker, long seed) {
        StringBuilder out = new StringBuilder();
        for (int k = 0; k <= 20; k++) {
            x.make(maker, seed, 24);
            if (x.smaller(k) < 0) {
                break;
            }
            out.append(k > 0 ? " " : "").append(shown(x));
        }
        return out.toString();
    }

    // ---- the draw

    static final class Draws {
        private long drawn;

        Draws(long seed) {
            drawn = seed;
        }

        int below(int n) {
            drawn = drawn * 6364136223846793005L + 1442695040888963407L;
            return (int) ((drawn >>> 32) * n >>> 32);
        }
    }

    /** A seed by which the numbers come that are told: below what, and which one, in turn. */
    static long seedOf(int... belowAndNumber) {
        for (long seed = 0; seed < 50000000; seed++) {
            Draws d = new Draws(seed);
            boolean fits = true;
            for (int i = 0; i < belowAndNumber.length && fits; i += 2) {
                fits = d.below(belowAndNumber[i]) == belowAndNumber[i + 1];
            }
            if (fits) {
                return seed;
            }
        }
        throw new IllegalStateException(at + ": no seed");
    }

    /** A seed by which a number below n comes at the place, and not ahead of it. */
    static long seedOfFirst(int n, int number, int place) {
        for (long seed = 0; seed < 50000000; seed++) {
            Draws d = new Draws(seed);
            int i = 0;
            while (i < place && d.below(n) != number) {
                i++;
            }
            if (i == place && d.below(n) == number) {
                return seed;
            }
        }
        throw new IllegalStateException(at + ": no seed");
    }

    /** A seed by which a maker makes this case. */
    static long seedThatShows(CaseTrials x, int maker, String want) {
        for (long seed = 0; seed < 2000000; seed++) {
            x.make(maker, seed, 24);
            if (shown(x).equals(want)) {
                return seed;
            }
        }
        throw new IllegalStateException(at + ": no seed");
    }

    /** Runs a property that holds till this much effort is left. */
    static void spend(CaseTrials x, int holding, int left) {
        for (int i = 0; i < 1500 && x.effort() > left; i++) {
            x.run(holding, 1, Math.min(50, x.effort() - left), 0);
        }
    }
}
