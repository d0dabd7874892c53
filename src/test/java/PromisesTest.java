/** Each promise of the document: ordinary inputs, the edges that it names, wrong inputs. */
public final class PromisesTest {
    private static final int UNKNOWN = -1;
    private static final int OUTSIDE = -2;
    private static final int STATE = -3;
    private static final int FULL = -4;
    private static final int GIVES_UP = -5;
    private static final int SPENT = -6;
    private static final int NONE = -9;
    private static final long NO_SIGN = Long.MIN_VALUE;
    private static final int MIN = Integer.MIN_VALUE;
    private static final int MAX = Integer.MAX_VALUE;

    private static int wrong = 0;
    private static int asked = 0;

    private static void due(String call, long got, long want) {
        asked++;
        if (got != want) {
            wrong++;
            System.out.println(call + " answered " + got + ", due is " + want);
        }
    }

    /** The shown case, written out: a leaf as its number, a row in brackets. */
    private static String shown(CaseTrials x) {
        StringBuilder out = new StringBuilder();
        int end = write(x, 0, out);
        return x.sign(end) == NO_SIGN && x.sign(-1) == NO_SIGN ? out.toString() : "signs left over";
    }

    private static int write(CaseTrials x, int at, StringBuilder out) {
        if (x.sign(at) == 0) {
            out.append(x.sign(at + 1));
            return at + 2;
        }
        long n = x.sign(at + 1);
        int next = at + 2;
        out.append('[');
        for (int i = 0; i < n; i++) {
            out.append(i > 0 ? " " : "");
            next = write(x, next, out);
        }
        out.append(']');
        return next;
    }

    private static void dueCase(String what, CaseTrials x, String want) {
        asked++;
        String got = shown(x);
        if (!got.equals(want)) {
            wrong++;
            System.out.println(what + ": the shown case is " + got + ", due is " + want);
        }
    }

    /** All smaller cases of what a maker makes of a seed, one behind another. */
    private static String smallerOnes(CaseTrials x, int maker, long seed) {
        StringBuilder out = new StringBuilder();
        for (int k = 0; k <= 20; k++) {
            x.make(maker, seed, 24);
            if (x.smaller(k) < 0) {
                break;
            }
            out.append(k > 0 ? " " : "").append(shown(x));
        }
        return out.toString();
    }

    private static void dueText(String what, String got, String want) {
        asked++;
        if (!got.equals(want)) {
            wrong++;
            System.out.println(what + ": " + got + ", due is " + want);
        }
    }

    private static final class Draws {
        private long at;

        private Draws(long seed) {
            at = seed;
        }

        private int below(int n) {
            at = at * 6364136223846793005L + 1442695040888963407L;
            return (int) ((at >>> 32) * n >>> 32);
        }
    }

    /** A maker of a case with just these leaves. */
    private static int fixed(CaseTrials x, int... leaves) {
        int n = leaves.length;
        int maker = x.whole(leaves[n - 1], leaves[n - 1]);
        for (int i = n - 2; i >= 0; i--) {
            maker = x.pair(x.whole(leaves[i], leaves[i]), maker);
        }
        return maker;
    }

    /** A new bench with a case of just these leaves shown. */
    private static CaseTrials showing(int... leaves) {
        CaseTrials x = new CaseTrials();
        if (leaves.length == 0) {
            x.make(x.listOf(x.whole(0, 0), 1), 0, 0);
        } else {
            x.make(fixed(x, leaves), 0, 24);
        }
        return x;
    }

    private static int holdsOf(int kind, int a, int b, int... leaves) {
        CaseTrials x = showing(leaves);
        return x.holds(x.check(kind, a, b));
    }

    /** A seed whose first numbers below n are these. */
    private static long seedOf(int n, int... numbers) {
        for (long seed = 0; seed < 10000000; seed++) {
            Draws d = new Draws(seed);
            boolean fits = true;
            for (int i = 0; i < numbers.length && fits; i++) {
                fits = d.below(n) == numbers[i];
            }
            if (fits) {
                return seed;
            }
        }
        return -1;
    }

    // ---- promise 1

    private static void newObject() {
        CaseTrials x = new CaseTrials();
        due("new: told(0)", x.told(0), 0);
        due("new: told(1)", x.told(1), 0);
        due("new: told(2)", x.told(2), 0);
        due("new: told(3)", x.told(3), NONE);
        due("new: effort()", x.effort(), 1500);
        due("new: sign(0)", x.sign(0), NO_SIGN);
        due("new: ran(0)", x.ran(0), NONE);
        due("new: show(true)", x.show(true), STATE);
        due("new: show(false)", x.show(false), STATE);
        due("new: smaller(0)", x.smaller(0), NONE);
        due("new: script", x.script(0, 0, 0, 0), NO_SIGN);
        due("new: maker(0, 0)", x.maker(0, 0), UNKNOWN);
        due("UNKNOWN", CaseTrials.UNKNOWN, -1);
        due("OUTSIDE", CaseTrials.OUTSIDE, -2);
        due("STATE", CaseTrials.STATE, -3);
        due("FULL", CaseTrials.FULL, -4);
        due("NONE", CaseTrials.NONE, -9);
    }

    // ---- promises 2 to 10

    private static void wholes() {
        CaseTrials x = new CaseTrials();
        due("whole: low too low", x.whole(-1000001, 0), OUTSIDE);
        due("whole: high too high", x.whole(0, 1000001), OUTSIDE);
        due("whole: low above high", x.whole(1, 0), OUTSIDE);
        due("whole: least int", x.whole(MIN, MAX), OUTSIDE);
        due("whole: widest", x.whole(-1000000, 1000000), 0);
        due("whole: narrowest", x.whole(1000000, 1000000), 1);
        for (int i = 2; i < 30; i++) {
            due("whole " + i, x.whole(-i, i), i);
        }
        due("whole: 31st", x.whole(0, 0), FULL);
        due("whole: 31st, and wrong", x.whole(1, 0), OUTSIDE);
        due("told(0) when full", x.told(0), 30);
        for (long seed = -20; seed < 20; seed++) {
            x.make(0, seed, 0);
            due("whole made of " + seed, x.sign(1), -1000000 + new Draws(seed).below(2000001));
            due("whole made of " + seed + ": a leaf", x.sign(0), 0);
            x.make(5, seed, 24);
            due("whole made of " + seed, x.sign(1), -5 + new Draws(seed).below(11));
        }
    }

    private static void lists() {
        CaseTrials x = new CaseTrials();
        due("listOf: no maker", x.listOf(0, 0), UNKNOWN);
        x.whole(0, 9);
        due("listOf: no such maker", x.listOf(1, 0), UNKNOWN);
        due("listOf: maker -1", x.listOf(-1, 1), UNKNOWN);
        due("listOf: most 0", x.listOf(0, 0), OUTSIDE);
        due("listOf: most 25", x.listOf(0, 25), OUTSIDE);
        due("listOf: most 24", x.listOf(0, 24), 1);
        due("listOf: weight 48", x.listOf(1, 2), FULL);
        due("listOf: weight 24", x.listOf(1, 1), 2);
        due("listOf", x.listOf(0, 5), 3);
        due("listOf: weight", x.maker(3, 1), 5);
        due("listOf: 4 times 5", x.listOf(3, 4), 4);
        due("listOf: weight of lists", x.maker(4, 1), 20);
        due("listOf: 5 times 5", x.listOf(3, 5), FULL);
        for (long seed = 0; seed < 60; seed++) {
            int size = (int) (seed % 25);
            Draws d = new Draws(seed);
            int n = d.below(1 + Math.min(5, size));
            StringBuilder want = new StringBuilder("[");
            for (int i = 0; i < n; i++) {
                want.append(i > 0 ? " " : "").append(d.below(10));
            }
            due("make a list of " + seed, x.make(3, seed, size), 2 + 2 * n);
            dueCase("list of " + seed, x, want + "]");
        }
        // with SIZE 0 a number is drawn all the same
        int two = x.pair(3, 0);
        x.make(two, 77, 0);
        dueCase("list of none", x, "[[] " + x.draw(77, 1, 10) + "]");
    }

    private static void pairs() {
        CaseTrials x = new CaseTrials();
        due("pair: none", x.pair(0, 0), UNKNOWN);
        x.whole(0, 9);
        due("pair: no second", x.pair(0, 1), UNKNOWN);
        due("pair: no first", x.pair(1, 0), UNKNOWN);
        due("pair", x.pair(0, 0), 1);
        due("pair of pairs", x.pair(1, 0), 2);
        due("pair: weight", x.maker(2, 1), 3);
        x.shuffled(22);
        due("pair: weight 24", x.pair(3, 1), 4);
        due("pair: weight 25", x.pair(3, 2), FULL);
        due("pair: make", x.make(2, 5, 24), 10);
        dueCase("pair: the first one first", x,
                "[[" + x.draw(5, 0, 10) + " " + x.draw(5, 1, 10) + "] " + x.draw(5, 2, 10) + "]");
    }

    private static void oneOfs() {
        CaseTrials x = new CaseTrials();
        x.whole(0, 9);
        x.whole(100, 109);
        x.pair(0, 1);
        due("oneOf: no maker", x.oneOf(0, 0, 3, 1), UNKNOWN);
        due("oneOf: no maker", x.oneOf(-1, 1, 0, 1), UNKNOWN);
        due("oneOf: p 0", x.oneOf(0, 0, 1, 1), OUTSIDE);
        due("oneOf: p 101", x.oneOf(0, 101, 1, 1), OUTSIDE);
        due("oneOf: q 0", x.oneOf(0, 1, 1, 0), OUTSIDE);
        due("oneOf: q 101", x.oneOf(0, 1, 1, 101), OUTSIDE);
        due("oneOf", x.oneOf(0, 3, 1, 4), 3);
        due("oneOf: shares", x.oneOf(0, 100, 2, 100), 4);
        due("oneOf: weight of the second", x.maker(4, 1), 2);
        due("oneOf", x.oneOf(2, 1, 0, 1), 5);
        due("oneOf: weight of the first", x.maker(5, 1), 2);
        for (long seed = 0; seed < 80; seed++) {
            Draws d = new Draws(seed);
            boolean first = d.below(7) < 3;
            x.make(3, seed, 24);
            dueCase("one of, made of " + seed, x, "" + ((first ? 0 : 100) + d.below(10)));
        }
    }

    private static void mappedOnes() {
        CaseTrials x = new CaseTrials();
        x.whole(0, 9);
        due("mapped: no maker", x.mapped(1, 9), UNKNOWN);
        due("mapped: function -1", x.mapped(0, -1), OUTSIDE);
        due("mapped: function 5", x.mapped(0, 5), OUTSIDE);
        due("mapped", x.mapped(0, 0), 1);
        due("mapped: weight", x.maker(1, 1), 2);
        x.shuffled(24);
        due("mapped: weight 25", x.mapped(2, 0), FULL);
        int row = fixed(x, -15, 1000000, 3, 3);
        String[] want = {"[15 [-1000000 [-3 -3]]]", "[-30 [2000000 [6 6]]]", "[225 [-727379968 [9 9]]]",
            "[-1 [1 [3 3]]]", "[-15 [3 [3 1000000]]]"};
        for (int function = 0; function < 5; function++) {
            x.make(x.mapped(row, function), 0, 24);
            dueCase("mapped by " + function, x, want[function]);
        }
        // the inner one first: squares, then their contraries, then in order
        int inner = x.mapped(row, 2);
        x.make(x.mapped(x.mapped(inner, 0), 4), 0, 24);
        dueCase("mapped thrice", x, "[-225 [-9 [-9 727379968]]]");
        // one that stands in a row maps its own leaves alone
        x.make(x.pair(x.pair(0, x.mapped(0, 1)), 0), 9, 24);
        dueCase("mapped in a row", x, "[[" + x.draw(9, 0, 10) + " " + 2 * x.draw(9, 1, 10) + "] "
                + x.draw(9, 2, 10) + "]");
        // going round
        CaseTrials y = new CaseTrials();
        y.make(y.mapped(y.whole(65536, 65536), 2), 0, 0);
        due("65536 times itself", y.sign(1), 0);
        int huge = y.mapped(y.whole(46341, 46341), 2);
        y.make(huge, 0, 0);
        due("46341 times itself", y.sign(1), 46341 * 46341);
        y.make(y.mapped(huge, 1), 0, 0);
        due("twice that", y.sign(1), 2 * (46341 * 46341));
        y.make(y.mapped(huge, 3), 0, 0);
        due("the remainder of one below 0", y.sign(1), (46341 * 46341) % 7);
        y.make(y.mapped(huge, 0), 0, 0);
        due("the contrary of one below 0", y.sign(1), -(46341 * 46341));
    }

    private static void pickedOnes() {
        CaseTrials x = new CaseTrials();
        x.whole(0, 9);
        due("picked: no check", x.picked(0, 0), UNKNOWN);
        x.check(0, 1, 0);
        due("picked: no maker", x.picked(1, 0), UNKNOWN);
        due("picked: check -1", x.picked(0, -1), UNKNOWN);
        due("picked", x.picked(0, 0), 1);
        due("picked: weight", x.maker(1, 1), 2);
        due("picked of picked", x.picked(1, 0), STATE);
        int pair = x.pair(0, 1);
        due("picked of what has a picked one", x.picked(pair, 0), STATE);
        due("picked: unknown check ahead of state", x.picked(1, 1), UNKNOWN);
        x.shuffled(24);
        due("picked: weight 25", x.picked(3, 0), FULL);
        for (long seed = 0; seed < 60; seed++) {
            Draws d = new Draws(seed);
            int left = x.effort();
            int tries = 0;
            boolean fits = false;
            while (tries < 8 && !fits) {
                tries++;
                fits = d.below(10) < 1;
            }
            due("picked of " + seed, x.make(1, seed, 24), fits ? 2 : GIVES_UP);
            due("picked of " + seed + ": effort", x.effort(), left - tries);
            if (fits) {
                due("picked of " + seed + ": it", x.sign(1), 0);
            }
        }
        // the draw goes on behind the one that fits, and the signs know nothing of those that did not
        long third = seedOf(10, 4, 5, 0);
        due("a pair of picked ones", x.make(x.pair(1, 0), third, 24), 6);
        dueCase("a pair of picked ones", x, "[0 " + x.draw(third, 3, 10) + "]");
        // a check that throws ends the making at once
        x.check(5, 0, 0);
        int left = x.effort();
        due("picked: throws", x.make(x.picked(0, 1), 0, 24), GIVES_UP);
        due("picked: throws: effort", x.effort(), left - 1);
        dueCase("picked: the shown one stays", x, "[0 " + x.draw(third, 3, 10) + "]");
    }

    private static void shuffledOnes() {
        CaseTrials x = new CaseTrials();
        due("shuffled: 0", x.shuffled(0), OUTSIDE);
        due("shuffled: 25", x.shuffled(25), OUTSIDE);
        due("shuffled: -1", x.shuffled(-1), OUTSIDE);
        due("shuffled: 1", x.shuffled(1), 0);
        due("shuffled: 24", x.shuffled(24), 1);
        due("shuffled: weight", x.maker(1, 1), 24);
        due("shuffled: 7", x.shuffled(7), 2);
        due("shuffled: make of 1", x.make(0, 3, 0), 4);
        dueCase("shuffled: 1", x, "[0]");
        for (long seed = 0; seed < 40; seed++) {
            int[] row = {0, 1, 2, 3, 4, 5, 6};
            Draws d = new Draws(seed);
            for (int i = 6; i >= 1; i--) {
                int j = d.below(i + 1);
                int kept = row[i];
                row[i] = row[j];
                row[j] = kept;
            }
            due("shuffled of " + seed, x.make(2, seed, 0), 16);
            String want = java.util.Arrays.toString(row).replace(",", "");
            dueCase("shuffled of " + seed, x, want);
        }
        // of one leaf nothing is drawn
        x.whole(0, 99);
        x.make(x.pair(0, 3), 8, 0);
        dueCase("nothing drawn for one", x, "[[0] " + x.draw(8, 0, 100) + "]");
    }

    private static void belows() {
        CaseTrials x = new CaseTrials();
        due("below: no maker", x.below(0), UNKNOWN);
        x.whole(50, 60);
        due("below", x.below(0), 1);
        due("below: weight", x.maker(1, 1), 2);
        x.shuffled(24);
        due("below: weight 25", x.below(2), FULL);
        for (long seed = 0; seed < 40; seed++) {
            Draws d = new Draws(seed);
            int first = 50 + d.below(11);
            due("below of " + seed, x.make(1, seed, 0), 6);
            dueCase("below of " + seed, x, "[" + first + " " + d.below(1 + first) + "]");
        }
        CaseTrials y = new CaseTrials();
        int two = y.pair(y.whole(1000000, 1000000), y.whole(1, 1));
        y.make(y.below(two), 4, 0);
        dueCase("below: 1000000 if it is above", y, "[[1000000 1] " + y.draw(4, 2, 1000001) + "]");
        y.make(y.below(y.whole(-5, -5)), 4, 0);
        dueCase("below: 0 if it is below", y, "[-5 0]");
        y.make(y.below(y.mapped(y.whole(-7, -7), 0)), 4, 0);
        dueCase("below: of the leaves as they are mapped", y, "[7 " + y.draw(4, 1, 8) + "]");
        // 46341 times itself is below 0 as an int
        y.make(y.below(y.mapped(y.whole(46341, 46341), 2)), 4, 0);
        dueCase("below: going round", y, "[" + 46341 * 46341 + " 0]");
        y.make(y.below(y.below(y.whole(9, 9))), 4, 0);
        int inner = y.draw(4, 1, 10);
        dueCase("below of below", y, "[[9 " + inner + "] " + y.draw(4, 2, 10 + inner) + "]");
    }

    private static void makersTold() {
        CaseTrials x = new CaseTrials();
        due("maker: none", x.maker(0, 9), UNKNOWN);
        x.whole(0, 3);
        x.check(0, 0, 0);
        x.listOf(0, 2);
        x.pair(0, 1);
        x.oneOf(0, 1, 1, 1);
        x.mapped(0, 1);
        x.picked(0, 0);
        x.shuffled(3);
        x.below(0);
        int[] weights = {1, 2, 3, 2, 2, 2, 3, 2};
        for (int kind = 0; kind < 8; kind++) {
            due("maker " + kind + ": kind", x.maker(kind, 0), kind);
            due("maker " + kind + ": weight", x.maker(kind, 1), weights[kind]);
            due("maker " + kind + ": picks", x.maker(kind, 2), kind == 5 ? 1 : 0);
        }
        due("maker: what 3", x.maker(0, 3), OUTSIDE);
        due("maker: what -1", x.maker(0, -1), OUTSIDE);
        due("maker: none, what 3", x.maker(8, 3), UNKNOWN);
        due("maker: -1", x.maker(-1, 0), UNKNOWN);
        int[] ofPicked = {x.listOf(5, 2), x.pair(0, 5), x.pair(5, 0), x.oneOf(0, 1, 5, 1), x.oneOf(5, 1, 0, 1),
            x.mapped(5, 0), x.below(5)};
        for (int m : ofPicked) {
            due("maker " + m + ": a picked one is in it", x.maker(m, 2), 1);
        }
        // the 30th is the last of each kind of call
        for (int i = x.told(0); i < 30; i++) {
            x.whole(0, 0);
        }
        due("full: listOf", x.listOf(0, 1), FULL);
        due("full: pair", x.pair(0, 0), FULL);
        due("full: oneOf", x.oneOf(0, 1, 0, 1), FULL);
        due("full: mapped", x.mapped(0, 0), FULL);
        due("full: picked", x.picked(0, 0), FULL);
        due("full: picked of picked", x.picked(5, 0), STATE);
        due("full: shuffled", x.shuffled(1), FULL);
        due("full: below", x.below(0), FULL);
        due("full: listOf, most 0", x.listOf(0, 0), OUTSIDE);
        due("full: shuffled 0", x.shuffled(0), OUTSIDE);
        due("full: none refused is kept", x.told(0), 30);
    }

    // ---- promise 11, with what checks say (15)

    private static void checksAdded() {
        CaseTrials x = new CaseTrials();
        due("check: kind -1", x.check(-1, 0, 0), OUTSIDE);
        due("check: kind 12", x.check(12, 0, 0), OUTSIDE);
        due("check: no machine 3", x.check(11, 3, 0), OUTSIDE);
        due("check: no machine -1", x.check(11, -1, 0), OUTSIDE);
        due("check: no fault 4", x.check(11, 0, 4), OUTSIDE);
        due("check: no fault -1", x.check(11, 0, -1), OUTSIDE);
        due("check: both of none", x.check(8, 0, 0), UNKNOWN);
        due("check: one of none", x.check(9, 0, 0), UNKNOWN);
        due("check: not of none", x.check(10, 0, 0), UNKNOWN);
        due("check", x.check(0, MIN, MAX), 0);
        due("check: itself", x.check(8, 0, 1), UNKNOWN);
        due("check: itself", x.check(9, 1, 0), UNKNOWN);
        due("check: -1", x.check(10, -1, 0), UNKNOWN);
        due("check: not, b not looked at", x.check(10, 0, 99), 1);
        for (int kind = 0; kind < 8; kind++) {
            due("check " + kind + ": b not looked at", x.check(kind, -77, 77), 2 + kind);
        }
        due("check: told", x.told(1), 10);
        for (int i = x.told(1); i < 40; i++) {
            x.check(8, i - 1, i - 1);
        }
        due("check: 41st", x.check(0, 0, 0), FULL);
        due("check: 41st, unknown", x.check(8, 0, 40), UNKNOWN);
        due("check: 41st, outside", x.check(12, 0, 0), OUTSIDE);
        due("check: told, full", x.told(1), 40);
        // thirty levels of both(c, c): each is asked once
        x.make(x.whole(-78, -78), 0, 0);
        due("both of both of ..", x.holds(39), -12);
    }

    private static void checksOfSumAndRow() {
        due("sum below", holdsOf(0, 7, 0, 2, 4), 1);
        due("sum not below", holdsOf(0, 6, 0, 2, 4), 0);
        due("sum of none", holdsOf(0, 0, 0), 0);
        due("sum of none", holdsOf(0, 1, 0), 1);
        due("all from", holdsOf(1, 2, 0, 2, 4), 1);
        due("not all from", holdsOf(1, 3, 0, 4, 2), 0);
        due("not all from: the first", holdsOf(1, 3, 0, 2, 4), 0);
        due("all of none", holdsOf(1, MAX, 0), 1);
        due("fewer", holdsOf(2, 3, 0, 4, 2), 1);
        due("not fewer", holdsOf(2, 2, 0, 4, 2), 0);
        due("none are fewer than 1", holdsOf(2, 1, 0), 1);
        due("rise", holdsOf(3, 0, 0, 1, 1, 2), 1);
        due("fall", holdsOf(3, 0, 0, 1, 3, 2), 0);
        due("fall at once", holdsOf(3, 0, 0, 2, 1), 0);
        due("fall at once, then rise", holdsOf(3, 0, 0, 2, 1, 7), 0);
        due("one rises", holdsOf(3, 0, 0, 9), 1);
        due("none rise", holdsOf(3, 0, 0), 1);
        due("differ", holdsOf(4, 0, 0, 1, 3, 2), 1);
        due("alike", holdsOf(4, 0, 0, 3, 1, 3), 0);
        due("two alike", holdsOf(4, 0, 0, 3, 3), 0);
        due("the last two alike", holdsOf(4, 0, 0, 1, 3, 3), 0);
        due("none are alike", holdsOf(4, 0, 0), 1);
        due("sum by 3", holdsOf(5, 3, 0, 2, 4), 1);
        due("sum by 4", holdsOf(5, 4, 0, 2, 4), 0);
        due("sum by -3", holdsOf(5, -3, 0, 2, -8), 1);
        due("sum by 0", holdsOf(5, 0, 0, 2, 4), -11);
        due("sum by -1", holdsOf(5, -1, 0, 2, 4), 1);
        // as an int, going round: 2 times 1073741824, which is 32768 times itself, is the least int
        CaseTrials x = new CaseTrials();
        int part = x.mapped(x.whole(32768, 32768), 2);
        x.make(x.pair(part, part), 0, 0);
        due("sum going round", x.holds(x.check(0, 0, 0)), 1);
        due("sum going round by -1", x.holds(x.check(5, -1, 0)), 1);
    }

    private static void checksThatThrow() {
        due("quotients", holdsOf(6, 0, 0, 5, 1000, -143), 1);
        due("quotient 7", holdsOf(6, 0, 0, 5, 142), 0);
        due("quotient 7 from 126", holdsOf(6, 0, 0, 126), 0);
        due("quotient 8 of 125", holdsOf(6, 0, 0, 125), 1);
        due("quotient 6 of 143", holdsOf(6, 0, 0, 143), 1);
        due("quotient -7", holdsOf(6, 0, 0, -130), 1);
        due("quotient by 0", holdsOf(6, 5, 0, 7, 5), -11);
        due("7 ahead of 0", holdsOf(6, 5, 0, 135, 5), 0);
        due("0 ahead of 7", holdsOf(6, 5, 0, 5, 135), -11);
        due("quotients of none", holdsOf(6, 0, 0), 1);
        // 7 less the least int goes round to below 0
        due("quotient going round", holdsOf(6, MIN + 7 - 130, 0, 7), 1);
        due("telling", holdsOf(7, 9, 0, 1, 2, 0), 1);
        due("telling of a", holdsOf(7, 2, 0, 1, 2, 0), 0);
        due("telling beyond", holdsOf(7, 9, 0, 1, 3, 0), -12);
        due("telling below 0", holdsOf(7, 9, 0, 1, -1, 0), -12);
        due("a ahead of beyond", holdsOf(7, 5, 0, 1, 5, 0), 0);
        due("beyond ahead of a", holdsOf(7, 5, 0, 5, 1, 1), -12);
        due("telling of none", holdsOf(7, 0, 0), 1);
        CaseTrials x = showing(3, 1);
        int yes = x.check(2, 3, 0);
        int no = x.check(2, 2, 0);
        int divides = x.check(5, 0, 0);
        int tells = x.check(7, 0, 0);
        int[][] want = {{yes, yes, 1, 1}, {yes, no, 0, 1}, {no, yes, 0, 1}, {no, no, 0, 0}, {yes, tells, -12, 1},
            {no, tells, 0, -12}, {tells, yes, -12, -12}, {tells, divides, -12, -12}, {divides, no, -11, -11}};
        for (int[] w : want) {
            due("both of " + w[0] + " and " + w[1], x.holds(x.check(8, w[0], w[1])), w[2]);
            due("one of " + w[0] + " and " + w[1], x.holds(x.check(9, w[0], w[1])), w[3]);
        }
        due("not of one that holds", x.holds(x.check(10, yes, 0)), 0);
        due("not of one that does not", x.holds(x.check(10, no, 0)), 1);
        due("not of one that throws", x.holds(x.check(10, tells, 0)), -12);
    }

    private static void heldOfShown() {
        CaseTrials x = new CaseTrials();
        due("holds: no check, none shown", x.holds(0), UNKNOWN);
        x.check(2, 3, 0);
        due("holds: none shown", x.holds(0), STATE);
        due("holds: no such check", x.holds(1), UNKNOWN);
        x.make(x.whole(1, 1), 0, 0);
        due("holds", x.holds(0), 1);
        due("holds: -1", x.holds(-1), UNKNOWN);
        due("holds: costs no effort", x.effort(), 1500);
    }

    // ---- promise 16, and check 11

    private static void dueScript(int machine, int fault, int[] leaves, long... answers) {
        CaseTrials x = showing(leaves);
        for (int i = 0; i < answers.length; i++) {
            String call = "script " + java.util.Arrays.toString(leaves) + " of " + machine + ", fault " + fault
                    + ", act " + i;
            due(call, x.script(machine, fault, i, 2), answers[i]);
            due(call + " itself", x.script(machine, fault, i, 0), Math.floorMod(leaves[2 * i], 4));
            due(call + "'s number", x.script(machine, fault, i, 1), leaves[2 * i + 1]);
            due(call + " of the model", x.script(machine, fault, i, 3), x.script(machine, 0, i, 2));
        }
        due("script: act beyond", x.script(machine, fault, leaves.length / 2, 1), NO_SIGN);
    }

    private static void scripts() {
        int[] mixed = {0, 8, 0, 5, 0, 8, 2, 8, 1, 8, 3, 0, 1, 0};
        dueScript(0, 0, mixed, 1, 1, 1, 8, 8, 2, 5);
        dueScript(1, 0, mixed, 1, 1, 1, 8, 8, 2, 5);
        dueScript(2, 0, mixed, 1, 1, 1, 2, 5, 2, 8);
        int[] two = {0, 9, 0, 4, 2, 9, 1, 0, 1, 0, 1, 0, 2, 9};
        dueScript(0, 0, two, 1, 1, 4, 4, 9, -1, -1);
        dueScript(1, 0, two, 1, 1, 9, 9, 4, -1, -1);
        dueScript(2, 0, two, 1, 1, 1, 4, 9, -1, 0);
        dueScript(0, 2, two, 1, 1, 4, 4, 9, 0, -1);
        dueScript(1, 2, two, 1, 1, 9, 9, 4, 0, -1);
        dueScript(2, 2, two, 1, 1, 1, 4, 9, 0, 0);
        dueScript(2, 0, new int[] {0, 6, 0, 6, 0, 2, 2, 6, 2, 2, 2, 4, 3, 6}, 1, 1, 1, 2, 1, 0, 3);
        // acts are remainders made not below 0; a last leaf alone is left out
        dueScript(0, 0, new int[] {-4, 7, -1, 0, -2, 0, -3, 0, 5}, 1, 1, 7, 7);
        dueScript(2, 0, new int[] {1000, -1, 7, 0, 401, 0}, 1, 1, -1);
        CaseTrials x = showing(0, 1);
        due("script: machine -1", x.script(-1, 0, 0, 0), NO_SIGN);
        due("script: machine 3", x.script(3, 0, 0, 0), NO_SIGN);
        due("script: fault -1", x.script(0, -1, 0, 0), NO_SIGN);
        due("script: fault 4", x.script(0, 4, 0, 0), NO_SIGN);
        due("script: act -1", x.script(0, 0, -1, 0), NO_SIGN);
        due("script: act 1", x.script(0, 0, 1, 0), NO_SIGN);
        due("script: what -1", x.script(0, 0, 0, -1), NO_SIGN);
        due("script: what 4", x.script(0, 0, 0, 4), NO_SIGN);
        due("script: far act", x.script(0, 0, MAX, 0), NO_SIGN);
    }

    /** Five puts fill a machine, a sixth shows its fault; then acts of the test. */
    private static void fullMachines() {
        CaseTrials x = new CaseTrials();
        int put = x.whole(0, 0);
        int take = x.whole(1, 1);
        int three = x.pair(put, x.whole(3, 3));
        int nine = x.pair(put, x.whole(9, 9));
        int seven = x.pair(put, x.whole(7, 7));
        int one = x.pair(put, x.whole(1, 1));
        int filled = x.pair(x.pair(three, x.pair(seven, nine)), x.pair(one, seven));
        int over = x.pair(filled, x.pair(put, x.whole(4, 4)));
        int takes = x.pair(take, take);
        int allTakes = x.pair(takes, x.pair(takes, x.pair(takes, x.pair(takes, takes))));
        x.make(x.pair(over, allTakes), 0, 0);
        // places hold 3 7 9 1 7, then 4 comes
        long[][] want = {
            {0, 7, 1, 9, 7, 3}, {1, 4, 7, 1, 9, 7},
            {0, 3, 7, 9, 1, 7}, {1, 7, 9, 1, 7, 4},
            {0, 1, 3, 7, 7, 9}, {1, 1, 3, 4, 7, 7}};
        for (int i = 0; i < want.length; i++) {
            for (int j = 0; j < 6; j++) {
                due("full machine " + i / 2 + ", fault " + i % 2 + ", act " + (5 + j),
                        x.script(i / 2, i % 2, 5 + j, 2), want[i][j]);
            }
        }
        for (int m = 0; m < 3; m++) {
            due("full: fault 2 is as none", x.script(m, 2, 5, 2), 0);
            due("full: ahead of the throw", x.script(m, 3, 4, 2), 1);
            due("full: throws", x.script(m, 3, 5, 2), NO_SIGN);
            due("full: has thrown", x.script(m, 3, 6, 2), NO_SIGN);
            due("full: the model goes on", x.script(m, 3, 6, 3), want[2 * m][1]);
            due("full: the act is told all the same", x.script(m, 3, 6, 0), 1);
            due("full: fault 0 goes with its model", x.holds(x.check(11, m, 0)), 1);
            due("full: fault 1 does not", x.holds(x.check(11, m, 1)), 0);
            due("full: fault 2 does", x.holds(x.check(11, m, 2)), 1);
            due("full: fault 3 throws", x.holds(x.check(11, m, 3)), -13);
        }
        due("a last leaf alone is left out", holdsOf(11, 1, 2, 0, 5, 1, 0, 1), 1);
        CaseTrials y = showing(1, 0, 0);
        for (int m = 0; m < 3; m++) {
            due("empty: fault 1", y.holds(y.check(11, m, 1)), 1);
            due("empty: fault 2", y.holds(y.check(11, m, 2)), 0);
            due("empty: fault 3", y.holds(y.check(11, m, 3)), 1);
        }
    }

    // ---- promises 12 to 14, 17

    private static void made() {
        CaseTrials x = new CaseTrials();
        due("make: no maker", x.make(0, 0, 99), UNKNOWN);
        x.whole(0, 9);
        due("make: size -1", x.make(0, 0, -1), OUTSIDE);
        due("make: size 25", x.make(0, 0, 25), OUTSIDE);
        due("make: none shown by these", x.told(3), NONE);
        due("make: size 0", x.make(0, 0, 0), 2);
        due("make: size 24", x.make(0, 0, 24), 2);
        due("make: maker -1", x.make(-1, 0, 0), UNKNOWN);
        due("make: effort", x.effort(), 1500);
        x.make(x.pair(x.listOf(0, 3), x.whole(-7, -7)), seedOf(4, 2), 24);
        due("sign of the pair", x.sign(0), 1);
        due("sign: how many", x.sign(1), 2);
        due("sign of the list", x.sign(2), 1);
        due("sign: how many", x.sign(3), 2);
        due("sign of a leaf", x.sign(4), 0);
        due("sign of the last leaf", x.sign(8), 0);
        due("sign of the last leaf, it", x.sign(9), -7);
        due("sign: behind", x.sign(10), NO_SIGN);
        due("sign: -1", x.sign(-1), NO_SIGN);
        due("sign: most", x.sign(MAX), NO_SIGN);
        due("sign: least", x.sign(MIN), NO_SIGN);
    }

    private static void deepest() {
        CaseTrials x = new CaseTrials();
        int m = x.shuffled(2);
        for (int i = 1; i < 29; i++) {
            m = x.oneOf(m, 1, m, 1);
        }
        int last = x.listOf(m, 12);
        due("deepest: the 30th", last, 29);
        int most = 0;
        for (long seed = 0; seed < 100; seed++) {
            int signs = x.make(last, seed, 24);
            most = Math.max(most, signs);
            due("deepest: leaves", x.told(3), (signs - 2) / 3);
        }
        due("deepest: signs", most, 2 + 12 * 6);
        CaseTrials y = new CaseTrials();
        m = y.whole(1, 9);
        for (int i = 1; i < 23; i++) {
            m = y.below(m);
        }
        due("deepest below", y.make(m, 3, 24), 2 + 22 * 4);
        due("deepest below: leaves", y.told(3), 23);
        // the most parts: 24 rows of one leaf, each behind 28 choices
        CaseTrials z = new CaseTrials();
        m = z.shuffled(1);
        for (int i = 1; i < 29; i++) {
            m = z.oneOf(m, 1, m, 1);
        }
        last = z.listOf(m, 24);
        due("widest", last, 29);
        long seed = seedOf(25, 24);
        due("widest: signs", z.make(last, seed, 24), 2 + 24 * 4);
        due("widest: leaves", z.told(3), 24);
        due("widest: last sign", z.sign(97), 0);
        due("widest: half", z.smaller(2), 2 + 12 * 4);
        int p = z.property(last, z.check(2, 7, 0));
        due("widest: run", z.run(p, seed, 1, 24), 1);
        // 24 leaves: without 12; 12: without 6 there are too few; without the first 3; 9: without the first 2; 7
        due("widest: steps", z.ran(3), 3);
        due("widest: end", z.show(false), 2 + 7 * 4);
    }

    private static void smallerWholes() {
        CaseTrials x = new CaseTrials();
        int[][] bounds = {{5, 5}, {9, 9}, {-9, -9}, {0, 0}};
        for (int[] b : bounds) {
            dueText("smaller: none of " + b[0], smallerOnes(x, x.whole(b[0], b[1]), 0), "");
        }
        int m = x.whole(-100, 100);
        dueText("smaller than 40", smallerOnes(x, m, seedOf(201, 140)), "0 20 30 35 38 39");
        dueText("smaller than -7", smallerOnes(x, m, seedOf(201, 93)), "0 -4 -6");
        dueText("smaller than 1", smallerOnes(x, m, seedOf(201, 101)), "0");
        dueText("smaller than 0", smallerOnes(x, m, seedOf(201, 100)), "");
        m = x.whole(3, 20);
        dueText("smaller than 14 from 3", smallerOnes(x, m, seedOf(18, 11)), "3 9 12 13");
        m = x.whole(-20, -3);
        dueText("smaller than -14 to -3", smallerOnes(x, m, seedOf(18, 6)), "-3 -9 -12 -13");
        m = x.whole(0, 1000000);
        long seed = seedOf(1000001, 1000000 - 3);
        x.make(m, seed, 0);
        for (int d = 999997; d > 0; d /= 2) {
            x.make(m, seed, 0);
            int k = 0;
            for (int e = 999997; e > d; e /= 2) {
                k++;
            }
            x.smaller(k);
            due("smaller " + k, x.sign(1), 999997 - d);
        }
        x.make(m, seed, 0);
        due("smaller: 20 of them", x.smaller(20), NONE);
        due("smaller: all stays", x.sign(1), 999997);
    }

    private static void smallerRows() {
        CaseTrials x = new CaseTrials();
        int digit = x.whole(0, 9);
        int list = x.listOf(digit, 4);
        dueText("smaller lists", smallerOnes(x, list, listSeed(4, 5, 0, 1)), "[] [0 1] [5 1] [5 0] "
                + "[0 0 1] [3 0 1] [4 0 1] [5 0 0]");
        dueText("smaller list of four", smallerOnes(x, list, listSeed(4, 0, 1, 0, 2)), "[] [0 2] [0 1] "
                + "[1 0 2] [0 0 2] [0 1 2] [0 1 0] [0 0 0 2] [0 1 0 0] [0 1 0 1]");
        dueText("smaller list of none", smallerOnes(x, list, listSeed(4)), "");
        int pair = x.pair(digit, digit);
        dueText("smaller pairs", smallerOnes(x, pair, seedOf(10, 3, 2)), "[0 2] [2 2] [3 0] [3 1]");
        int either = x.oneOf(digit, 1, list, 1);
        long first = seedOf(2, 0);
        x.make(either, first, 24);
        long v = x.sign(1);
        dueText("smaller one of", smallerOnes(x, either, first), wholes(v));
        int twice = x.mapped(digit, 1);
        dueText("smaller mapped", smallerOnes(x, twice, seedOf(10, 6)), "0 6 10");
        int sorted = x.mapped(pair, 4);
        dueText("smaller sorted", smallerOnes(x, sorted, seedOf(10, 3, 2)), "[0 2] [2 2] [0 3] [1 3]");
        int shuffled = x.shuffled(3);
        dueText("smaller shuffled", smallerOnes(x, shuffled, shuffleSeed("[2 1 0]")), "[1 2 0] [2 0 1]");
        dueText("smaller shuffled", smallerOnes(x, shuffled, shuffleSeed("[1 2 0]")), "[1 0 2]");
        dueText("none smaller than the first order", smallerOnes(x, shuffled, shuffleSeed("[0 1 2]")), "");
        dueText("smaller shuffled side by side", smallerOnes(x, x.pair(shuffled, shuffled),
                twoShuffled("[[0 1 2] [1 0 2]]")), "[[0 1 2] [0 1 2]]");
    }

    private static String wholes(long v) {
        StringBuilder out = new StringBuilder();
        for (long d = v; d > 0; d /= 2) {
            out.append(d < v ? " " : "").append(v - d);
        }
        return out.toString();
    }

    /** A seed by which a list with a most makes these digits. */
    private static long listSeed(int most, int... digits) {
        for (long seed = 0; seed < 10000000; seed++) {
            Draws d = new Draws(seed);
            boolean fits = d.below(most + 1) == digits.length;
            for (int i = 0; i < digits.length && fits; i++) {
                fits = d.below(10) == digits[i];
            }
            if (fits) {
                return seed;
            }
        }
        return -1;
    }

    private static long shuffleSeed(String want) {
        CaseTrials x = new CaseTrials();
        x.shuffled(3);
        return seedThatShows(x, 0, want);
    }

    private static long twoShuffled(String want) {
        CaseTrials x = new CaseTrials();
        x.shuffled(3);
        return seedThatShows(x, x.pair(0, 0), want);
    }

    private static long seedThatShows(CaseTrials x, int maker, String want) {
        for (long seed = 0; seed < 100000; seed++) {
            x.make(maker, seed, 24);
            if (shown(x).equals(want)) {
                return seed;
            }
        }
        return -1;
    }

    private static void smallerBelows() {
        CaseTrials x = new CaseTrials();
        int digit = x.whole(0, 9);
        int below = x.below(digit);
        long seed = seedThatShows(x, below, "[8 5]");
        // the second is above 0 and above 4, but not above 6 and 7
        dueText("smaller below", smallerOnes(x, below, seed), "[0 0] [4 0] [6 5] [7 5] [8 0] [8 3] [8 4]");
        seed = seedThatShows(x, below, "[8 4]");
        dueText("smaller below, as much", smallerOnes(x, below, seed), "[0 0] [4 4] [6 4] [7 4] [8 0] [8 2] [8 3]");
        int twice = x.below(below);
        seed = seedThatShows(x, twice, "[[4 3] 5]");
        // the inner one's second is lowered first, so the sum of the outer one's first is lower too
        dueText("smaller below of below", smallerOnes(x, twice, seed), "[[0 0] 0] [[2 0] 0] [[3 3] 5] [[4 0] 0] "
                + "[[4 2] 5] [[4 3] 0] [[4 3] 3] [[4 3] 4]");
        seed = seedThatShows(x, below, "[1 1]");
        dueText("smaller below of 1", smallerOnes(x, below, seed), "[0 0] [1 0]");
        int mapped = x.below(x.mapped(digit, 0));
        seed = seedThatShows(x, mapped, "[-2 0]");
        dueText("smaller below of what is below 0", smallerOnes(x, mapped, seed), "[0 0] [-1 0]");
    }

    private static void smallerPicked() {
        CaseTrials x = new CaseTrials();
        int digit = x.whole(0, 9);
        int even = x.check(5, 2, 0);
        int picked = x.picked(digit, even);
        long seed = seedOf(10, 8);
        x.make(picked, seed, 0);
        int left = x.effort();
        due("smaller picked: 0", x.smaller(0), 2);
        due("smaller picked: one asked", x.effort(), left - 1);
        x.make(picked, seed, 0);
        left = x.effort();
        due("smaller picked: the last", x.smaller(2), 2);
        due("smaller picked: three asked", x.effort(), left - 3);
        due("smaller picked: it", x.sign(1), 6);
        x.make(picked, seed, 0);
        left = x.effort();
        due("smaller picked: none more", x.smaller(3), NONE);
        due("smaller picked: all asked", x.effort(), left - 4);
        due("smaller picked: it stays", x.sign(1), 8);
        dueText("smaller picked ones", smallerOnes(x, picked, seed), "0 4 6");
        // those for which the check throws do not fit: the place told must be there, so a row of two of 0, 1
        int telling = x.check(7, 5, 0);
        int bits = x.picked(x.listOf(x.whole(0, 2), 3), telling);
        seed = seedThatShows(x, bits, "[2 0 1]");
        dueText("smaller picked, thrown ones left out", smallerOnes(x, bits, seed), "[] [0 1] [0 0 1] [1 0 1] "
                + "[2 0 0]");
        // a list without a picked one asks nothing; with a smaller picked one it asks
        int list = x.listOf(picked, 2);
        seed = seedThatShows(x, list, "[4 6]");
        x.make(list, seed, 24);
        left = x.effort();
        x.smaller(2);
        due("smaller list of picked: none asked", x.effort(), left);
        dueText("smaller lists of picked", smallerOnes(x, list, seed), "[] [6] [4] [0 6] [2 6] [4 0]");
        int below = x.below(picked);
        seed = seedThatShows(x, below, "[8 5]");
        dueText("smaller below of picked", smallerOnes(x, below, seed), "[0 0] [4 0] [6 5] [8 0] [8 3] [8 4]");
        // the picked one asks the case with its second lowered: 4 and 2 go to 2 and 2, 3 and 2
        int ofBelow = x.picked(x.below(digit), even);
        seed = seedThatShows(x, ofBelow, "[4 4]");
        dueText("smaller picked of below", smallerOnes(x, ofBelow, seed), "[0 0] [2 0] [4 0] [4 2]");
    }

    private static void smallerAsked() {
        CaseTrials x = new CaseTrials();
        due("smaller: k -1", x.smaller(-1), OUTSIDE);
        due("smaller: k 21", x.smaller(21), OUTSIDE);
        due("smaller: none shown", x.smaller(20), NONE);
        x.make(x.whole(6, 9), 0, 0);
        due("smaller: k -1, shown", x.smaller(-1), OUTSIDE);
        due("smaller: k 21, shown", x.smaller(21), OUTSIDE);
        // smaller ones of a smaller one
        int list = x.listOf(x.whole(0, 9), 4);
        x.make(list, listSeed(4, 5, 0, 1), 24);
        due("smaller: signs", x.smaller(1), 6);
        dueCase("smaller", x, "[0 1]");
        due("smaller again: signs", x.smaller(3), 6);
        dueCase("smaller again", x, "[0 0]");
        due("smaller thrice: signs", x.smaller(0), 2);
        dueCase("smaller thrice", x, "[]");
        due("smaller: at the end", x.smaller(0), NONE);
    }

    private static void drawn() {
        CaseTrials x = new CaseTrials();
        due("draw: n 0", x.draw(0, 0, 0), OUTSIDE);
        due("draw: n least", x.draw(0, 0, MIN), OUTSIDE);
        due("draw: k -1", x.draw(0, -1, 1), OUTSIDE);
        due("draw: k 1001", x.draw(0, 1001, 1), OUTSIDE);
        due("draw: n 1", x.draw(-1, 1000, 1), 0);
        // 1442695040888963407 by 2^32 is 335903614
        due("draw: the first of 0", x.draw(0, 0, 1 << 30), 335903614 >> 2);
        due("draw: most", x.draw(0, 0, MAX), (int) (335903614L * MAX >> 32));
        // the draw behind -1 is -4921441182957829598: without sign it is in the upper half
        due("draw: without sign", x.draw(-1, 0, 2), 1);
        Draws d = new Draws(123456789);
        for (int k = 0; k <= 1000; k++) {
            due("draw " + k, x.draw(123456789, k, 1000), d.below(1000));
        }
    }

    /** Where a case is made or made smaller within another one. */
    private static void partsOfOthers() {
        CaseTrials x = new CaseTrials();
        int digit = x.whole(0, 9);
        int low = x.picked(digit, x.check(0, 3, 0));
        int pair = x.pair(x.whole(500, 500), low);
        long fits = seedOf(10, 4, 8, 2);
        x.check(0, 0, 0);
        due("picked behind another", x.make(pair, seedThatShows(x, pair, "[500 2]"), 24), 6);
        int below = x.pair(x.whole(500, 500), x.below(digit));
        for (long seed = 0; seed < 20; seed++) {
            x.make(below, seed, 24);
            long first = x.sign(7);
            due("below behind another", x.sign(9), x.draw(seed, 2, (int) first + 1));
        }
        x.make(low, fits, 0);
        due("picked at the third", x.sign(1), 2);
        int never = x.picked(digit, 1);
        int list = x.listOf(never, 2);
        long seed = seedOf(3, 1);
        due("a list gives up", x.make(list, seed, 24), GIVES_UP);
        due("a pair gives up by its first", x.make(x.pair(never, digit), 0, 0), GIVES_UP);
        due("a pair gives up by its second", x.make(x.pair(digit, never), 0, 0), GIVES_UP);
        due("a below gives up", x.make(x.below(never), 0, 0), GIVES_UP);
        due("a mapped one gives up", x.make(x.mapped(never, 0), 0, 0), GIVES_UP);
        due("one of gives up", x.make(x.oneOf(never, 1, never, 1), 0, 0), GIVES_UP);
        spend(x, x.property(digit, x.check(0, MAX, 0)), 0);
        due("a list is spent", x.make(list, seed, 24), SPENT);
        due("a pair is spent", x.make(x.pair(digit, never), 0, 0), SPENT);
        due("a below is spent", x.make(x.below(never), 0, 0), SPENT);
        due("a mapped one is spent", x.make(x.mapped(never, 0), 0, 0), SPENT);
        due("a list of none is made", x.make(list, seedOf(3, 0), 24), 2);
        due("a run is spent in a list", x.run(x.property(list, 0), seed, 1, 24), 3);
        due("a run is spent in a list: made", x.ran(1), 0);
    }

    /** What is told of parts behind a dropped one must tell of their new places. */
    private static void smallerAfterDrops() {
        CaseTrials x = new CaseTrials();
        int below = x.below(x.mapped(x.whole(0, 3), 1));
        int list = x.listOf(below, 4);
        x.make(list, seedThatShows(x, list, "[[2 0] [6 5] [4 1]]"), 24);
        x.smaller(1);
        dueCase("without the first", x, "[[6 5] [4 1]]");
        x.smaller(3);
        dueCase("its first to 0", x, "[[0 0] [4 1]]");
        x.smaller(4);
        dueCase("the second's first to 2 less 1, twice", x, "[[0 0] [2 1]]");
        x.smaller(1);
        dueCase("without the first", x, "[[2 1]]");
        int rows = x.listOf(x.listOf(x.whole(0, 9), 4), 4);
        long seed = 0;
        do {
            seed++;
            x.make(rows, seed, 24);
        } while (seed < 1000000 && !shown(x).matches("\\[\\[. . .\\] \\[. .\\] \\[. . . .\\]\\]"));
        String all = shown(x);
        String[] parts = all.substring(2, all.length() - 2).split("\\] \\[");
        x.smaller(2);
        dueCase("without the second", x, "[[" + parts[0] + "] [" + parts[2] + "]]");
        x.smaller(3);
        dueCase("without the first's leaves", x, "[[] [" + parts[2] + "]]");
        x.smaller(4);
        dueCase("without the second's first two", x, "[[] [" + parts[2].substring(4) + "]]");
        due("seven leaves less", x.told(3), 2);
        x.smaller(2);
        dueCase("without the second", x, "[[]]");
    }

    private static void deepChains() {
        CaseTrials x = new CaseTrials();
        int m = x.whole(1, 1);
        for (int i = 1; i < 24; i++) {
            m = x.mapped(m, i % 2);
        }
        due("deep mapped", m, 23);
        x.make(m, 0, 0);
        dueCase("deep mapped", x, "" + -(1 << 12));
        CaseTrials y = new CaseTrials();
        m = y.whole(1, 1);
        for (int i = 1; i < 24; i++) {
            m = i % 2 == 0 ? y.pair(m, 0) : y.pair(0, m);
        }
        due("deep pairs", y.make(m, 0, 0), 2 * 24 + 2 * 23);
        CaseTrials z = new CaseTrials();
        m = z.whole(1, 1);
        for (int i = 1; i < 30; i++) {
            m = z.listOf(m, 1);
        }
        due("deep lists", m, 29);
        due("deep lists: row of none", z.make(m, seedOf(2, 0), 24), 2);
        due("deep lists: seven rows", z.make(m, seedOf(2, 1, 1, 1, 1, 1, 1, 0), 24), 14);
        CaseTrials u = new CaseTrials();
        m = u.picked(u.whole(1, 1), u.check(2, 2, 0));
        for (int i = 2; i < 30; i++) {
            m = u.oneOf(m, 100, m, 100);
        }
        due("deep choices", u.make(m, 4, 24), 2);
    }

    // ---- promises 18 to 23

    private static void propertiesAndLabels() {
        CaseTrials x = new CaseTrials();
        due("property: none", x.property(0, 0), UNKNOWN);
        x.whole(0, 9);
        due("property: no check", x.property(0, 0), UNKNOWN);
        x.check(0, 5, 0);
        due("property: no maker", x.property(1, 0), UNKNOWN);
        due("property: -1", x.property(-1, 0), UNKNOWN);
        due("property: check -1", x.property(0, -1), UNKNOWN);
        due("label: no property", x.label(0, 0), UNKNOWN);
        for (int i = 0; i < 20; i++) {
            due("property", x.property(0, 0), i);
        }
        due("property: 21st", x.property(0, 0), FULL);
        due("property: 21st, unknown", x.property(0, 1), UNKNOWN);
        due("property: told", x.told(2), 20);
        due("label: no check", x.label(0, 1), UNKNOWN);
        due("label: no property", x.label(20, 0), UNKNOWN);
        due("label: -1", x.label(-1, 0), UNKNOWN);
        for (int i = 1; i <= 3; i++) {
            due("label", x.label(19, 0), i);
        }
        due("label: fourth", x.label(19, 0), FULL);
        due("label: fourth, no check", x.label(19, 1), UNKNOWN);
        due("label: of another", x.label(18, 0), 1);
        due("run: no property", x.run(20, 0, 0, 0), UNKNOWN);
        due("run: -1", x.run(-1, 0, 1, 0), UNKNOWN);
        due("run: n 0", x.run(0, 0, 0, 0), OUTSIDE);
        due("run: n 51", x.run(0, 0, 51, 0), OUTSIDE);
        due("run: size -1", x.run(0, 0, 1, -1), OUTSIDE);
        due("run: size 25", x.run(0, 0, 1, 25), OUTSIDE);
        due("run: none ran", x.ran(0), NONE);
        due("ran: -1", x.ran(-1), OUTSIDE);
        due("ran: 8", x.ran(8), OUTSIDE);
        due("show: none ran", x.show(true), STATE);
    }

    private static void dueRan(String run, CaseTrials x, int... want) {
        for (int what = 0; what < 8; what++) {
            due(run + ": ran(" + what + ")", x.ran(what), want[what]);
        }
    }

    private static void runsThatHold() {
        CaseTrials x = new CaseTrials();
        x.whole(0, 9);
        int low = x.check(0, 5, 0);
        int all = x.check(0, 10, 0);
        int throwing = x.check(7, 0, 0);
        int p = x.property(0, all);
        x.label(p, low);
        x.label(p, throwing);
        due("run that holds", x.run(p, 41, 50, 24), 0);
        int lows = 0;
        for (int k = 0; k < 50; k++) {
            lows += new Draws(41 + k * -7046029254386353131L).below(10) < 5 ? 1 : 0;
        }
        // the second label never holds: a 0 tells of itself, and any other leaf tells of a place beyond
        dueRan("run that holds", x, 0, 50, NONE, 0, 0, lows, 0, 0);
        due("run that holds: effort", x.effort(), 1450);
        due("run that holds: show", x.show(true), STATE);
        due("run that holds: none shown", x.told(3), NONE);
        x.label(p, all);
        due("a label later", x.ran(7), 0);
        due("run of one", x.run(p, 41, 1, 0), 0);
        dueRan("run of one", x, 0, 1, NONE, 0, 0, new Draws(41).below(10) < 5 ? 1 : 0, 0, 1);
        due("refused", x.run(p, 41, 0, 0), OUTSIDE);
        due("refused: the latest stays", x.ran(1), 1);
    }

    private static void runsThatFail() {
        CaseTrials x = new CaseTrials();
        int list = x.listOf(x.whole(0, 99), 5);
        int small = x.check(0, 40, 0);
        int few = x.check(2, 3, 0);
        int p = x.property(list, small);
        x.label(p, few);
        int[] want = new int[8];
        String first = null;
        for (int k = 0; first == null; k++) {
            Draws d = new Draws(7 + k * -7046029254386353131L);
            int n = d.below(6);
            int sum = 0;
            StringBuilder text = new StringBuilder("[");
            for (int i = 0; i < n; i++) {
                int leaf = d.below(100);
                sum += leaf;
                text.append(i > 0 ? " " : "").append(leaf);
            }
            want[1]++;
            want[2] = k;
            want[5] += n < 3 ? 1 : 0;
            first = sum >= 40 ? text + "]" : null;
        }
        due("run that fails", x.run(p, 7, 50, 24), 1);
        want[0] = 1;
        want[3] = x.ran(3);
        dueRan("run that fails", x, want);
        due("run that fails: steps", want[3] > 0 ? 1 : 0, 1);
        due("show(true)", x.show(true), shown(x).split(" ").length * 2 + 2);
        dueCase("as it was made", x, first);
        due("show(false)", x.show(false) >= 4 ? 1 : 0, 1);
        due("as it was in the end", x.holds(small), 0);
        // nothing smaller fails
        for (int k = 0; k <= 20; k++) {
            x.show(false);
            if (x.smaller(k) >= 0) {
                due("smaller one " + k + " of the end holds", x.holds(small), 1);
            }
        }
        // the draws of a run's cases: each k has its own
        CaseTrials y = new CaseTrials();
        y.whole(0, 1000000);
        int none = y.property(0, y.check(0, 990000, 0));
        int k = 0;
        while (new Draws(99 + k * -7046029254386353131L).below(1000001) < 990000) {
            k++;
        }
        due("the first of 99 is not the first of its cases", k > 0 && k < 50 ? 1 : 0, 1);
        y.run(none, 99, 50, 0);
        due("the first of 99 that is 990000 or more", y.ran(2), k);
        // a later run that holds has no failing case
        int always = x.check(2, 25, 0);
        due("later run", x.run(x.property(list, always), 7, 3, 24), 0);
        due("later run: show", x.show(false), STATE);
    }

    private static void stepsOfShrinking() {
        CaseTrials x = new CaseTrials();
        int m = x.whole(0, 100);
        int p = x.property(m, x.check(0, 40, 0));
        long seed = seedOf(101, 97);
        // 97: 0 49; 49: 0 25 37 43; 43: 0 22 33 38 41; 41: 0 21 31 36 39 40; 40: 0 20 30 35 38 39
        due("97", x.run(p, seed, 1, 0), 1);
        dueRan("97", x, 1, 1, 0, 4, 0, 0, 0, 0);
        due("97: effort", x.effort(), 1500 - 1 - 2 - 4 - 5 - 6 - 6);
        x.show(true);
        dueCase("97", x, "97");
        x.show(false);
        dueCase("97 in the end", x, "40");
        due("smaller goes on from there", x.smaller(1), 2);
        dueCase("smaller goes on from there", x, "20");
        // a check that throws fails; what it throws is told of the last one
        int throwing = x.property(m, x.check(6, 3, 0));
        seed = seedOf(101, 3);
        due("3", x.run(throwing, seed, 1, 0), 1);
        dueRan("3", x, 1, 1, 0, 0, 1, 0, 0, 0);
        // less by 3, each from 129 to 145 has the quotient 7, and 129 is the nearest one to 0
        int wide = x.whole(129, 145);
        int quotients = x.property(wide, x.check(6, 3, 0));
        due("145", x.run(quotients, seedOf(17, 16), 1, 0), 1);
        dueRan("145", x, 1, 1, 0, 1, 0, 0, 0, 0);
        x.show(false);
        dueCase("145 in the end", x, "129");
        // from one that does not hold to one that throws: 7 fails, its smaller 0 throws
        int either = x.check(8, x.check(6, 0, 0), x.check(0, 5, 0));
        int mixed = x.property(m, either);
        due("7", x.run(mixed, seedOf(101, 7), 1, 0), 1);
        dueRan("7", x, 1, 1, 0, 1, 1, 0, 0, 0);
        x.show(false);
        dueCase("7 in the end", x, "0");
    }

    private static void runsThatGiveUp() {
        CaseTrials x = new CaseTrials();
        int never = x.check(0, MIN, 0);
        int always = x.check(0, MAX, 0);
        int digit = x.whole(0, 9);
        int picked = x.picked(digit, never);
        int p = x.property(x.oneOf(digit, 1, picked, 1), always);
        x.label(p, always);
        long seed = 5;
        int k = 0;
        while (new Draws(seed + k * -7046029254386353131L).below(2) == 0) {
            k++;
        }
        due("gives up", x.run(p, seed, 50, 24), 2);
        dueRan("gives up", x, 2, k, NONE, 0, 0, k, 0, 0);
        due("gives up: effort", x.effort(), 1500 - k - 8);
        due("gives up: show", x.show(true), STATE);
        due("make gives up", x.make(picked, 0, 0), GIVES_UP);
        due("make gives up: none shown", x.told(3), NONE);
    }

    private static void spend(CaseTrials x, int property, int leave) {
        for (int i = 0; i < 1500 && x.effort() > leave; i++) {
            x.run(property, 1, Math.min(50, x.effort() - leave), 0);
        }
    }

    private static void effortSpent() {
        CaseTrials x = new CaseTrials();
        int m = x.whole(0, 100);
        int always = x.check(0, MAX, 0);
        int holding = x.property(m, always);
        int below40 = x.property(m, x.check(0, 40, 0));
        int picked = x.picked(m, always);
        int ofPicked = x.property(picked, always);
        x.label(ofPicked, always);
        x.label(holding, always);
        long seed = seedOf(101, 97);
        x.make(picked, seed, 0);
        spend(x, holding, 5);
        due("effort left", x.effort(), 5);
        // 97 fails (1), 0 and 49 (2), 0 and 25 (2), then there is none left for 37
        due("spent while made smaller", x.run(below40, seed, 1, 0), 1);
        dueRan("spent while made smaller", x, 1, 1, 0, 1, 0, 0, 0, 0);
        due("effort", x.effort(), 0);
        x.show(false);
        dueCase("it stays as it is", x, "49");
        due("spent at the check", x.run(holding, 3, 9, 0), 3);
        dueRan("spent at the check: made whole, its label counted", x, 3, 1, NONE, 0, 0, 1, 0, 0);
        due("spent: show", x.show(true), STATE);
        due("spent in the making", x.run(ofPicked, 3, 9, 0), 3);
        dueRan("spent in the making", x, 3, 0, NONE, 0, 0, 0, 0, 0);
        due("make: spent", x.make(picked, 0, 0), SPENT);
        dueCase("make: spent: the shown one stays", x, "49");
        due("make: of others", x.make(m, seed, 0), 2);
        due("smaller: of others", x.smaller(1), 2);
        due("effort: none below 0", x.effort(), 0);
    }

    private static void effortSpentOnPicked() {
        CaseTrials x = new CaseTrials();
        int m = x.whole(0, 100);
        int always = x.check(0, MAX, 0);
        int holding = x.property(m, always);
        int picked = x.picked(m, always);
        long seed = seedOf(101, 97);
        spend(x, holding, 3);
        due("make with effort left", x.make(picked, seed, 0), 2);
        due("smaller: the second asked", x.smaller(1), 2);
        dueCase("smaller: the second", x, "49");
        due("effort", x.effort(), 0);
        due("smaller: spent", x.smaller(0), SPENT);
        dueCase("smaller: spent: it stays", x, "49");
        // in a run: a picked one costs once when made, once for the property
        CaseTrials y = new CaseTrials();
        m = y.whole(0, 100);
        picked = y.picked(m, y.check(0, MAX, 0));
        int p = y.property(picked, y.check(0, 40, 0));
        due("picked in a run", y.run(p, seed, 1, 0), 1);
        due("picked in a run: steps", y.ran(3), 4);
        due("picked in a run: effort", y.effort(), 1500 - 2 * (1 + 2 + 4 + 5 + 6 + 6));
        y.show(false);
        dueCase("picked in a run: in the end", y, "40");
    }

    // ---- promise 24

    private static void toldOf() {
        CaseTrials x = new CaseTrials();
        due("told(-1)", x.told(-1), OUTSIDE);
        due("told(4)", x.told(4), OUTSIDE);
        x.make(x.listOf(x.whole(0, 9), 4), listSeed(4, 5, 0, 1), 24);
        x.check(0, 0, 0);
        x.check(0, 0, 0);
        x.check(0, 0, 0);
        x.property(0, 0);
        due("told(0)", x.told(0), 2);
        due("told(1)", x.told(1), 3);
        due("told(2)", x.told(2), 1);
        due("told(3)", x.told(3), 3);
        x.make(1, 0, 0);
        due("told(3): of no leaves", x.told(3), 0);
    }

    public static void main(String[] args) {
        newObject();
        wholes();
        lists();
        pairs();
        oneOfs();
        mappedOnes();
        pickedOnes();
        shuffledOnes();
        belows();
        makersTold();
        checksAdded();
        checksOfSumAndRow();
        checksThatThrow();
        heldOfShown();
        scripts();
        fullMachines();
        made();
        deepest();
        smallerWholes();
        smallerRows();
        smallerBelows();
        smallerPicked();
        smallerAsked();
        drawn();
        partsOfOthers();
        smallerAfterDrops();
        deepChains();
        propertiesAndLabels();
        runsThatHold();
        runsThatFail();
        stepsOfShrinking();
        runsThatGiveUp();
        effortSpent();
        effortSpentOnPicked();
        toldOf();
        System.out.println(asked + " answers asked, " + wrong + " wrong");
        if (wrong != 0) {
            System.exit(1);
        }
    }
}
