/** The boundaries that the document names of a new object and of makers: promises 1 to 10. */
public final class MakerBoundariesTest extends Sentences {

    // ---- promise 1

    private static void newObject() {
        of(1, "No MAKERS, CHECKS, PROPERTIES, no SHOWN CASE.");
        CaseTrials other = showing(1, 2);
        other.run(other.property(0, other.check(0, 0, 0)), 0, 1, 0);
        CaseTrials x = new CaseTrials();
        due("told(0)", x.told(0), 0);
        due("told(1)", x.told(1), 0);
        due("told(2)", x.told(2), 0);
        due("told(3)", x.told(3), NONE);
        due("effort()", x.effort(), 1500);
        due("maker(0, 0)", x.maker(0, 0), UNKNOWN);
        due("holds(0)", x.holds(0), UNKNOWN);
        due("run(0, 0, 1, 0)", x.run(0, 0, 1, 0), UNKNOWN);
        due("ran(0)", x.ran(0), NONE);
        due("sign(0)", x.sign(0), NO_SIGN);
        due("smaller(0)", x.smaller(0), NONE);
        due("script(0, 0, 0, 0)", x.script(0, 0, 0, 0), NO_SIGN);
        due("show(true)", x.show(true), STATE);
        due("the first maker", x.whole(0, 0), 0);
        due("told(0) behind it", x.told(0), 1);
        due("the first check", x.check(0, 0, 0), 0);
        due("told(1) behind it", x.told(1), 1);
        due("the first property", x.property(0, 0), 0);
        due("told(2) behind it", x.told(2), 1);
        due("the first case", x.make(0, 0, 0), 2);
        due("told(3) behind it", x.told(3), 1);
    }

    private static void constants() {
        of(1, "UNKNOWN (-1: there is no such MAKER, CHECK, PROPERTY, place), OUTSIDE (-2: a number is not as told), "
                + "STATE (-3: as told), FULL (-4). They change nothing. NONE is -9.");
        due("UNKNOWN", CaseTrials.UNKNOWN, -1);
        due("OUTSIDE", CaseTrials.OUTSIDE, -2);
        due("STATE", CaseTrials.STATE, -3);
        due("FULL", CaseTrials.FULL, -4);
        due("NONE", CaseTrials.NONE, -9);
    }

    // ---- promise 2

    private static void wholeBounds() {
        of(2, "0 WHOLE low high (-1000000 .. 1000000, low not above high)");
        CaseTrials x = new CaseTrials();
        refused(x, "whole(-1000001, 0)", () -> x.whole(-1000001, 0), OUTSIDE);
        due("whole(-1000000, 0)", x.whole(-1000000, 0), 0);
        due("whole(-999999, 0)", x.whole(-999999, 0), 1);
        refused(x, "whole(0, 1000001)", () -> x.whole(0, 1000001), OUTSIDE);
        due("whole(0, 1000000)", x.whole(0, 1000000), 2);
        due("whole(0, 999999)", x.whole(0, 999999), 3);
        refused(x, "whole(-1000001, -1000001)", () -> x.whole(-1000001, -1000001), OUTSIDE);
        refused(x, "whole(1000001, 1000001)", () -> x.whole(1000001, 1000001), OUTSIDE);
        due("whole(-1000000, -1000000)", x.whole(-1000000, -1000000), 4);
        due("whole(1000000, 1000000)", x.whole(1000000, 1000000), 5);
        due("whole(5, 6)", x.whole(5, 6), 6);
        due("whole(5, 5)", x.whole(5, 5), 7);
        refused(x, "whole(5, 4)", () -> x.whole(5, 4), OUTSIDE);
        refused(x, "whole(-4, -5)", () -> x.whole(-4, -5), OUTSIDE);
        due("whole(-5, -4)", x.whole(-5, -4), 8);
        due("whole(-1000000, 1000000)", x.whole(-1000000, 1000000), 9);
        refused(x, "whole(1000000, -1000000)", () -> x.whole(1000000, -1000000), OUTSIDE);
        refused(x, "whole(MIN, MAX)", () -> x.whole(MIN, MAX), OUTSIDE);
        refused(x, "whole(MIN, 0)", () -> x.whole(MIN, 0), OUTSIDE);
        refused(x, "whole(0, MAX)", () -> x.whole(0, MAX), OUTSIDE);
    }

    private static void wholeMade() {
        of(2, "WHOLE: low and THE NUMBER below high - low + 1.");
        CaseTrials x = new CaseTrials();
        x.whole(-3, 4);
        for (int number = 0; number < 8; number++) {
            x.make(0, seedOf(8, number), 0);
            due("the whole of number " + number, x.sign(1), -3 + number);
        }
        int widest = x.whole(-1000000, 1000000);
        for (int number : new int[] {0, 1, 1999999, 2000000}) {
            x.make(widest, seedOf(2000001, number), 0);
            due("the widest whole of number " + number, x.sign(1), -1000000 + number);
        }
        // one number alone is drawn too
        x.make(x.pair(x.whole(7, 7), x.whole(0, 999)), 5, 0);
        dueCase("7 and another", x, "[7 " + x.draw(5, 1, 1000) + "]");
    }

    /** Refused when there are 30 makers, and not ahead of that. */
    private static void fullOfMakers(int promise, String words, String name, Call call) {
        of(promise, words);
        for (int before = 28; before <= 30; before++) {
            CaseTrials x = new CaseTrials();
            x.check(2, 25, 0);
            for (int i = 0; i < before; i++) {
                due("whole number " + i, x.whole(0, 1), i);
            }
            if (before < 30) {
                due(name + " behind " + before, call.on(x), before);
                due(name + " behind " + before + ": how many", x.told(0), before + 1);
            } else {
                refused(x, name + " behind 30", () -> call.on(x), FULL);
            }
        }
    }

    private static void fullOfMakers() {
        fullOfMakers(2, "MAKERS, 30 ever, numbered as they come", "whole", x -> x.whole(0, 0));
        fullOfMakers(2, "FULL: 30 MAKERS.", "whole", x -> x.whole(-5, 5));
        fullOfMakers(3, "FULL.", "listOf", x -> x.listOf(0, 1));
        fullOfMakers(4, "FULL.", "pair", x -> x.pair(0, 1));
        fullOfMakers(5, "FULL.", "oneOf", x -> x.oneOf(0, 1, 1, 1));
        fullOfMakers(6, "FULL.", "mapped", x -> x.mapped(0, 0));
        fullOfMakers(7, "FULL.", "picked", x -> x.picked(0, 0));
        fullOfMakers(8, "FULL.", "shuffled", x -> x.shuffled(1));
        fullOfMakers(9, "FULL.", "below", x -> x.below(0));
    }

    private static void refusalsInOrder() {
        of(2, "(So all below: UNKNOWN, OUTSIDE, STATE, then FULL: MAKERS, WEIGHT.)");
        CaseTrials x = new CaseTrials();
        x.check(2, 25, 0);
        x.whole(0, 1);
        int picked = x.picked(0, 0);
        int heavy = x.shuffled(24);
        int heavyPicked = x.listOf(picked, 12);
        refused(x, "picked of a picked one, too heavy", () -> x.picked(heavyPicked, 0), STATE);
        refused(x, "picked of what is too heavy", () -> x.picked(heavy, 0), FULL);
        refused(x, "picked of a picked one by no check", () -> x.picked(picked, 1), UNKNOWN);
        refused(x, "listOf, too heavy, most 0", () -> x.listOf(heavy, 0), OUTSIDE);
        refused(x, "listOf, too heavy, most 25", () -> x.listOf(heavy, 25), OUTSIDE);
        refused(x, "mapped, too heavy, function 5", () -> x.mapped(heavy, 5), OUTSIDE);
        for (int i = x.told(0); i < 30; i++) {
            x.whole(0, 0);
        }
        refused(x, "whole, low above high", () -> x.whole(1, 0), OUTSIDE);
        refused(x, "listOf, no maker, most 0", () -> x.listOf(30, 0), UNKNOWN);
        refused(x, "listOf, most 0", () -> x.listOf(0, 0), OUTSIDE);
        refused(x, "pair, no first", () -> x.pair(30, 0), UNKNOWN);
        refused(x, "pair, no second", () -> x.pair(0, 30), UNKNOWN);
        refused(x, "oneOf, no first, shares 0", () -> x.oneOf(30, 0, 0, 0), UNKNOWN);
        refused(x, "oneOf, no second, shares 0", () -> x.oneOf(0, 0, 30, 0), UNKNOWN);
        refused(x, "oneOf, the first share 0", () -> x.oneOf(0, 0, 0, 1), OUTSIDE);
        refused(x, "oneOf, the second share 0", () -> x.oneOf(0, 1, 0, 0), OUTSIDE);
        refused(x, "mapped, no maker, function 5", () -> x.mapped(30, 5), UNKNOWN);
        refused(x, "mapped, function 5", () -> x.mapped(0, 5), OUTSIDE);
        refused(x, "picked, no maker, no check", () -> x.picked(30, 1), UNKNOWN);
        refused(x, "picked, no check", () -> x.picked(0, 1), UNKNOWN);
        refused(x, "picked of a picked one", () -> x.picked(picked, 0), STATE);
        refused(x, "shuffled 0", () -> x.shuffled(0), OUTSIDE);
        refused(x, "shuffled 25", () -> x.shuffled(25), OUTSIDE);
        refused(x, "below, no maker", () -> x.below(30), UNKNOWN);
    }

    // ---- the weights, promises 3 to 9

    private static void dueWeight(CaseTrials x, String call, int made, int weight) {
        due(call + ": its number", made, x.told(0) - 1);
        due(call + ": its weight", x.maker(made, 1), weight);
    }

    private static void weightOfLists() {
        of(3, "most times its WEIGHT.");
        CaseTrials x = new CaseTrials();
        int one = x.whole(0, 1);
        int two = x.shuffled(2);
        int five = x.shuffled(5);
        int six = x.shuffled(6);
        int all = x.shuffled(24);
        dueWeight(x, "listOf 1 by 23", x.listOf(one, 23), 23);
        dueWeight(x, "listOf 1 by 24", x.listOf(one, 24), 24);
        dueWeight(x, "listOf 2 by 11", x.listOf(two, 11), 22);
        dueWeight(x, "listOf 2 by 12", x.listOf(two, 12), 24);
        refused(x, "listOf 2 by 13", () -> x.listOf(two, 13), FULL);
        dueWeight(x, "listOf 5 by 4", x.listOf(five, 4), 20);
        refused(x, "listOf 5 by 5", () -> x.listOf(five, 5), FULL);
        dueWeight(x, "listOf 6 by 4", x.listOf(six, 4), 24);
        dueWeight(x, "listOf 24 by 1", x.listOf(all, 1), 24);
        refused(x, "listOf 24 by 2", () -> x.listOf(all, 2), FULL);
        refused(x, "listOf 24 by 24", () -> x.listOf(all, 24), FULL);
    }

    private static void weightOfPairs() {
        of(4, "24 at most; else it is refused, FULL");
        CaseTrials x = new CaseTrials();
        int one = x.whole(0, 1);
        int eleven = x.shuffled(11);
        int twelve = x.shuffled(12);
        int thirteen = x.shuffled(13);
        int all = x.shuffled(24);
        dueWeight(x, "pair of 11 and 12", x.pair(eleven, twelve), 23);
        dueWeight(x, "pair of 12 and 12", x.pair(twelve, twelve), 24);
        dueWeight(x, "pair of 11 and 13", x.pair(eleven, thirteen), 24);
        refused(x, "pair of 12 and 13", () -> x.pair(twelve, thirteen), FULL);
        refused(x, "pair of 13 and 12", () -> x.pair(thirteen, twelve), FULL);
        refused(x, "pair of 24 and 1", () -> x.pair(all, one), FULL);
        refused(x, "pair of 1 and 24", () -> x.pair(one, all), FULL);
        refused(x, "pair of 24 and 24", () -> x.pair(all, all), FULL);
        dueWeight(x, "pair of 1 and 1", x.pair(one, one), 2);
    }

    private static void pairsMade() {
        of(4, "PAIR: the first, the second.");
        CaseTrials x = new CaseTrials();
        int digit = x.whole(0, 9);
        int wide = x.whole(0, 999);
        int pair = x.pair(digit, wide);
        int both = x.pair(pair, x.pair(wide, digit));
        for (long seed : new long[] {0, 1, -1, Long.MIN_VALUE, Long.MAX_VALUE}) {
            due("a pair", x.make(pair, seed, 0), 6);
            dueCase("a pair of " + seed, x, "[" + x.draw(seed, 0, 10) + " " + x.draw(seed, 1, 1000) + "]");
            due("a pair of pairs", x.make(both, seed, 0), 14);
            dueCase("a pair of pairs of " + seed, x, "[[" + x.draw(seed, 0, 10) + " " + x.draw(seed, 1, 1000) + "] ["
                    + x.draw(seed, 2, 1000) + " " + x.draw(seed, 3, 10) + "]]");
        }
        // one maker twice makes two cases
        x.make(x.pair(wide, wide), 3, 0);
        dueCase("a pair of one maker", x, "[" + x.draw(3, 0, 1000) + " " + x.draw(3, 1, 1000) + "]");
    }

    private static void weightOfOneOf() {
        of(5, "the greater WEIGHT.");
        CaseTrials x = new CaseTrials();
        int two = x.shuffled(2);
        int three = x.shuffled(3);
        int all = x.shuffled(24);
        dueWeight(x, "oneOf 2 and 3", x.oneOf(two, 1, three, 1), 3);
        dueWeight(x, "oneOf 3 and 2", x.oneOf(three, 1, two, 1), 3);
        dueWeight(x, "oneOf 3 and 3", x.oneOf(three, 1, three, 1), 3);
        dueWeight(x, "oneOf 24 and 2", x.oneOf(all, 1, two, 1), 24);
        dueWeight(x, "oneOf 24 and 24", x.oneOf(all, 1, all, 1), 24);
    }

    private static void weightAndOne(int promise, String words, String name, java.util.function.IntBinaryOperator call,
            CaseTrials x) {
        of(promise, words);
        int one = x.whole(0, 1);
        int before = x.shuffled(22);
        int last = x.shuffled(23);
        int all = x.shuffled(24);
        x.check(2, 25, 0);
        dueWeight(x, name + " of 1", call.applyAsInt(one, 0), 2);
        dueWeight(x, name + " of 22", call.applyAsInt(before, 0), 23);
        dueWeight(x, name + " of 23", call.applyAsInt(last, 0), 24);
        refused(x, name + " of 24", () -> call.applyAsInt(all, 0), FULL);
    }

    private static void weightsAndOne() {
        CaseTrials x = new CaseTrials();
        weightAndOne(6, "each as an int (going round); its WEIGHT and 1.", "mapped", x::mapped, x);
        CaseTrials y = new CaseTrials();
        weightAndOne(7, "that fits a CHECK; its WEIGHT and 1.", "picked", y::picked, y);
        CaseTrials z = new CaseTrials();
        weightAndOne(9, "a ROW of its CASE and of a LEAF; its WEIGHT and 1.", "below", (m, c) -> z.below(m), z);
    }

    // ---- what there is not, promises 3 to 7 and 9

    /** A place that there is not, on each side of those that there are. */
    private static void dueUnknown(CaseTrials x, String name, java.util.function.IntUnaryOperator call, int count) {
        for (int place : new int[] {-1, count, count + 1, MIN, MAX, 30, 40, 255}) {
            refused(x, name + " of " + place, () -> call.applyAsInt(place), UNKNOWN);
        }
    }

    /** A bench with two makers and three checks. */
    private static CaseTrials small() {
        CaseTrials x = new CaseTrials();
        x.whole(0, 9);
        x.shuffled(2);
        for (int i = 0; i < 3; i++) {
            x.check(2, 25, 0);
        }
        return x;
    }

    private static void unknown() {
        CaseTrials x = small();
        of(3, "UNKNOWN; OUTSIDE: most is not 1 to 24; FULL.");
        dueUnknown(x, "listOf", m -> x.listOf(m, 2), 2);
        of(4, "UNKNOWN; FULL.");
        dueUnknown(x, "pair, the first", m -> x.pair(m, 0), 2);
        dueUnknown(x, "pair, the second", m -> x.pair(0, m), 2);
        of(5, "UNKNOWN; OUTSIDE: p, q are not 1 to 100; FULL.");
        dueUnknown(x, "oneOf, the first", m -> x.oneOf(m, 1, 0, 1), 2);
        dueUnknown(x, "oneOf, the second", m -> x.oneOf(0, 1, m, 1), 2);
        of(6, "UNKNOWN; OUTSIDE: function is not 0 to 4; FULL.");
        dueUnknown(x, "mapped", m -> x.mapped(m, 0), 2);
        of(7, "UNKNOWN: maker, check; STATE; FULL.");
        dueUnknown(x, "picked, the maker", m -> x.picked(m, 0), 2);
        dueUnknown(x, "picked, the check", c -> x.picked(0, c), 3);
        of(9, "UNKNOWN; FULL.");
        dueUnknown(x, "below", x::below, 2);
        // the last and the first one there are
        due("listOf the last", x.listOf(1, 2), 2);
        due("pair of the last ones", x.pair(2, 2), 3);
        due("oneOf the last ones", x.oneOf(3, 1, 3, 1), 4);
        due("mapped of the last", x.mapped(4, 0), 5);
        due("picked of the last by the last", x.picked(5, 2), 6);
        due("below of the last", x.below(6), 7);
        due("below of the first", x.below(0), 8);
        due("picked of the first by the first", x.picked(0, 0), 9);
    }

    // ---- promise 3

    private static void listMost() {
        of(3, "OUTSIDE: most is not 1 to 24");
        CaseTrials x = new CaseTrials();
        x.whole(0, 9);
        refused(x, "listOf(0, 0)", () -> x.listOf(0, 0), OUTSIDE);
        due("listOf(0, 1)", x.listOf(0, 1), 1);
        due("listOf(0, 2)", x.listOf(0, 2), 2);
        due("listOf(0, 23)", x.listOf(0, 23), 3);
        due("listOf(0, 24)", x.listOf(0, 24), 4);
        refused(x, "listOf(0, 25)", () -> x.listOf(0, 25), OUTSIDE);
        refused(x, "listOf(0, -1)", () -> x.listOf(0, -1), OUTSIDE);
        refused(x, "listOf(0, MIN)", () -> x.listOf(0, MIN), OUTSIDE);
        refused(x, "listOf(0, MAX)", () -> x.listOf(0, MAX), OUTSIDE);
    }

    private static void listLengths() {
        of(3, "a ROW of 0 .. most of its CASES");
        CaseTrials x = new CaseTrials();
        x.whole(0, 9);
        for (int most : new int[] {1, 2, 24}) {
            int list = x.listOf(0, most);
            for (int n = 0; n <= most; n++) {
                due("a list of " + n + " of " + most, x.make(list, seedOf(most + 1, n), 24), 2 + 2 * n);
                due("a list of " + n + ": a row", x.sign(0), 1);
                due("a list of " + n + ": how many", x.sign(1), n);
                due("a list of " + n + ": leaves", x.told(3), n);
            }
        }
    }

    // ---- promise 5

    private static void shares() {
        of(5, "OUTSIDE: p, q are not 1 to 100");
        CaseTrials x = new CaseTrials();
        x.whole(0, 9);
        int n = 1;
        for (int share : new int[] {MIN, -1, 0, 101, MAX}) {
            refused(x, "oneOf, p " + share, () -> x.oneOf(0, share, 0, 1), OUTSIDE);
            refused(x, "oneOf, q " + share, () -> x.oneOf(0, 1, 0, share), OUTSIDE);
        }
        for (int share : new int[] {1, 2, 99, 100}) {
            due("oneOf, p " + share, x.oneOf(0, share, 0, 1), n++);
            due("oneOf, q " + share, x.oneOf(0, 1, 0, share), n++);
        }
        due("oneOf, both 100", x.oneOf(0, 100, 0, 100), n++);
        refused(x, "oneOf, both 0", () -> x.oneOf(0, 0, 0, 0), OUTSIDE);
        refused(x, "oneOf, both 101", () -> x.oneOf(0, 101, 0, 101), OUTSIDE);
    }

    private static void choices() {
        of(5, "ONE OF: the first, if THE NUMBER below p + q is below p.");
        int[][] shares = {{1, 1}, {2, 1}, {1, 2}, {3, 4}, {100, 1}, {1, 100}, {100, 100}};
        for (int[] s : shares) {
            CaseTrials x = new CaseTrials();
            int m = x.oneOf(x.whole(-7, -7), s[0], x.whole(8, 8), s[1]);
            for (int number = 0; number < s[0] + s[1]; number++) {
                if (number <= 1 || Math.abs(number - s[0]) <= 1 || number >= s[0] + s[1] - 2) {
                    x.make(m, seedOf(s[0] + s[1], number), 0);
                    due("shares " + s[0] + ", " + s[1] + ", number " + number, x.sign(1), number < s[0] ? -7 : 8);
                }
            }
        }
    }

    // ---- promise 6

    private static void functions() {
        of(6, "OUTSIDE: function is not 0 to 4");
        CaseTrials x = new CaseTrials();
        x.whole(0, 9);
        refused(x, "mapped(0, -1)", () -> x.mapped(0, -1), OUTSIDE);
        for (int function = 0; function <= 4; function++) {
            due("mapped(0, " + function + ")", x.mapped(0, function), 1 + function);
        }
        refused(x, "mapped(0, 5)", () -> x.mapped(0, 5), OUTSIDE);
        refused(x, "mapped(0, 6)", () -> x.mapped(0, 6), OUTSIDE);
        refused(x, "mapped(0, MIN)", () -> x.mapped(0, MIN), OUTSIDE);
        refused(x, "mapped(0, MAX)", () -> x.mapped(0, MAX), OUTSIDE);
    }

    private static void dueMapped(CaseTrials x, int maker, int... want) {
        for (int function = 0; function < 4; function++) {
            x.make(x.mapped(maker, function), 0, 0);
            due("mapped by " + function, x.sign(1), want[function]);
        }
    }

    private static void mappedLeaves() {
        of(6, "each LEAF of it through a FUNCTION: 0 its contrary, 1 twice it, 2 itself times itself, "
                + "3 its remainder by 7 (with its sign)");
        for (int leaf : new int[] {-15, -14, -13, -8, -7, -6, -1, 0, 1, 6, 7, 8, 13, 14, 15, 32767, -46340}) {
            CaseTrials x = new CaseTrials();
            dueMapped(x, x.whole(leaf, leaf), -leaf, leaf + leaf, leaf * leaf, leaf - leaf / 7 * 7);
        }
        CaseTrials x = new CaseTrials();
        dueMapped(x, x.whole(-8, -8), 8, -16, 64, -1);
        dueMapped(x, x.whole(-7, -7), 7, -14, 49, 0);
        dueMapped(x, x.whole(-6, -6), 6, -12, 36, -6);
        dueMapped(x, x.whole(6, 6), -6, 12, 36, 6);
        // each leaf in its place, and no other one
        CaseTrials y = new CaseTrials();
        int row = fixed(y, 9, -8, 0);
        String[] want = {"[-9 [8 0]]", "[18 [-16 0]]", "[81 [64 0]]", "[2 [-1 0]]"};
        for (int function = 0; function < 4; function++) {
            y.make(y.mapped(row, function), 0, 24);
            dueCase("a row mapped by " + function, y, want[function]);
        }
        y.make(y.pair(y.pair(y.whole(3, 3), y.mapped(row, 0)), y.whole(4, 4)), 0, 0);
        dueCase("mapped between others", y, "[[3 [-9 [8 0]]] 4]");
        y.make(y.mapped(y.listOf(row, 1), 2), seedOf(2, 0), 24);
        dueCase("mapped of no leaf", y, "[]");
    }

    private static void mappedGoingRound() {
        of(6, "each as an int (going round)");
        CaseTrials x = new CaseTrials();
        int below = x.mapped(x.whole(32767, 32767), 2);
        int half = x.mapped(x.whole(32768, 32768), 2);
        dueMapped(x, below, -1073676289, 2147352578, 1073676289 * 1073676289, 1073676289 % 7);
        dueMapped(x, half, -1073741824, MIN, 0, 1);
        CaseTrials y = new CaseTrials();
        int least = y.mapped(y.mapped(y.whole(32768, 32768), 2), 1);
        dueMapped(y, least, MIN, 0, 0, -2);
        CaseTrials z = new CaseTrials();
        dueMapped(z, z.mapped(z.whole(46340, 46340), 2), -2147395600, -176096, 2147395600 * 2147395600, 0);
        dueMapped(z, z.mapped(z.whole(46341, 46341), 2), 2147479015, 9266, -2147479015 * -2147479015, -3);
        dueMapped(z, z.mapped(z.whole(-46341, -46341), 2), 2147479015, 9266, 2147479015 * 2147479015, -3);
    }

    private static void mappedOfMapped() {
        of(6, "MAPPED: the CASE, then it is mapped.");
        CaseTrials x = new CaseTrials();
        int three = x.whole(-3, -3);
        int[] once = new int[4];
        for (int function = 0; function < 4; function++) {
            once[function] = x.mapped(three, function);
        }
        // of -3: 3, -6, 9, -3; then each of these by each function
        int[][] want = {{-3, 6, 9, 3}, {6, -12, 36, -6}, {-9, 18, 81, 2}, {3, -6, 9, -3}};
        for (int inner = 0; inner < 4; inner++) {
            for (int outer = 0; outer < 4; outer++) {
                x.make(x.mapped(once[inner], outer), 0, 0);
                due("function " + outer + " of function " + inner, x.sign(1), want[inner][outer]);
            }
        }
        // the contraries of what was put in order, and the order of the contraries
        CaseTrials y = new CaseTrials();
        int row = fixed(y, 2, 1, 3);
        y.make(y.mapped(y.mapped(row, 4), 0), 0, 0);
        dueCase("in order, then contrary", y, "[-1 [-2 -3]]");
        y.make(y.mapped(y.mapped(row, 0), 4), 0, 0);
        dueCase("contrary, then in order", y, "[-3 [-2 -1]]");
        // nothing more is drawn
        int wide = y.whole(0, 999);
        y.make(y.pair(y.mapped(wide, 1), wide), 3, 0);
        dueCase("mapped and not", y, "[" + 2 * y.draw(3, 0, 1000) + " " + y.draw(3, 1, 1000) + "]");
    }

    private static void mappedInOrder() {
        of(6, "4 all LEAVES in rising order (its SIGNS else as they are)");
        int[][] rows = {{7}, {1, 2}, {2, 1}, {2, 2}, {3, -1, 3, 0}, {3, 2, 1, 0, -1}, {0, 5, 4, 5, 4}, {1, 0, 0}};
        String[] want = {"7", "[1 2]", "[1 2]", "[2 2]", "[-1 [0 [3 3]]]", "[-1 [0 [1 [2 3]]]]",
            "[0 [4 [4 [5 5]]]]", "[0 [0 1]]"};
        for (int i = 0; i < rows.length; i++) {
            CaseTrials x = new CaseTrials();
            x.make(x.mapped(fixed(x, rows[i]), 4), 0, 24);
            dueCase("in order", x, want[i]);
        }
        CaseTrials x = new CaseTrials();
        int list = x.listOf(x.whole(0, 9), 1);
        int m = x.mapped(x.pair(x.pair(x.whole(8, 8), list), x.pair(x.whole(-3, -3), x.whole(5, 5))), 4);
        x.make(m, 0, 0);
        dueCase("in order, with a row of none between", x, "[[-3 []] [5 8]]");
        // by what they are as ints
        CaseTrials y = new CaseTrials();
        int least = y.mapped(y.mapped(y.whole(32768, 32768), 2), 1);
        y.make(y.mapped(y.pair(y.pair(y.whole(0, 0), least), y.mapped(y.whole(46340, 46340), 2)), 4), 0, 0);
        dueCase("in order from the least int on", y, "[[" + MIN + " 0] 2147395600]");
        // those alone that are its own
        y.make(y.pair(y.whole(9, 9), y.pair(y.mapped(fixed(y, 8, 1), 4), y.whole(-9, -9))), 0, 0);
        dueCase("in order between others", y, "[9 [[1 8] -9]]");
    }

    // ---- promise 7

    private static void pickedWithin() {
        of(7, "(in which no PICKED one is: else STATE)");
        CaseTrials x = small();
        int picked = x.picked(0, 0);
        due("picked of a whole", picked, 2);
        refused(x, "picked of a picked one", () -> x.picked(picked, 0), STATE);
        int[] with = {x.listOf(picked, 2), x.pair(picked, 0), x.pair(0, picked), x.oneOf(picked, 1, 0, 1),
            x.oneOf(0, 1, picked, 1), x.mapped(picked, 0), x.below(picked)};
        int deep = x.below(with[3]);
        for (int m : with) {
            refused(x, "picked of maker " + m + " with one in it", () -> x.picked(m, 0), STATE);
        }
        refused(x, "picked of one with one deep in it", () -> x.picked(deep, 0), STATE);
        int[] without = {x.listOf(0, 2), x.pair(0, 1), x.oneOf(0, 1, 1, 1), x.mapped(0, 0), x.below(0), 1};
        for (int m : without) {
            due("picked of maker " + m + " with none in it", x.picked(m, 0), x.told(0) - 1);
        }
    }

    private static void pickedTries() {
        of(7, "PICKED: at most 8 times a CASE, till one is asked that fits");
        CaseTrials x = new CaseTrials();
        int picked = x.picked(x.whole(0, 9), x.check(0, 1, 0));
        int pair = x.pair(picked, x.whole(0, 99));
        for (int place : new int[] {0, 1, 6, 7}) {
            long seed = seedOfFirst(10, 0, place);
            int left = x.effort();
            due("fits at place " + place, x.make(pair, seed, 0), 6);
            due("fits at place " + place + ": effort", x.effort(), left - place - 1);
            // the draw goes on behind the one that fits
            dueCase("fits at place " + place, x, "[0 " + x.draw(seed, place + 1, 100) + "]");
        }
        String before = shown(x);
        for (int place : new int[] {8, 9}) {
            int left = x.effort();
            due("fits at place " + place, x.make(pair, seedOfFirst(10, 0, place), 0), GIVES_UP);
            due("fits at place " + place + ": effort", x.effort(), left - 8);
            dueCase("fits at place " + place, x, before);
        }
    }

    private static void pickedThrows() {
        of(7, "if none does, or the CHECK throws, the MAKING GIVES UP (as a whole)");
        CaseTrials x = new CaseTrials();
        // 5 throws, 0 fits, another one does not
        int check = x.check(8, x.check(6, 5, 0), x.check(0, 1, 0));
        int picked = x.picked(x.whole(0, 9), check);
        int never = x.picked(x.whole(0, 9), x.check(0, 0, 0));
        int pair = x.pair(x.whole(4, 4), picked);
        int[][] seeds = {{10, 5}, {10, 3, 10, 5}, {10, 3, 10, 4, 10, 5}, {10, 5, 10, 0}};
        int[] asked = {1, 2, 3, 1};
        for (int i = 0; i < seeds.length; i++) {
            int left = x.effort();
            due("throws at the " + asked[i] + ". case", x.make(picked, seedOf(seeds[i]), 0), GIVES_UP);
            due("throws at the " + asked[i] + ". case: effort", x.effort(), left - asked[i]);
        }
        due("one that fits ahead of one that throws", x.make(picked, seedOf(10, 0, 10, 5), 0), 2);
        int left = x.effort();
        due("a pair gives up by its second", x.make(pair, seedOf(1, 0, 10, 5), 0), GIVES_UP);
        due("a pair gives up by its second: effort", x.effort(), left - 1);
        dueCase("the shown one stays", x, "0");
        due("none fits", x.make(never, 0, 0), GIVES_UP);
        due("none fits: effort", x.effort(), left - 9);
        int list = x.listOf(picked, 3);
        due("a list gives up by its last", x.make(list, seedOf(4, 3, 10, 0, 10, 0, 10, 5), 24), GIVES_UP);
        due("a list of all that fit", x.make(list, seedOf(4, 3, 10, 0, 10, 0, 10, 0), 24), 8);
        due("a list of none asks none", x.make(list, seedOf(4, 0), 24), 2);
        int[] ofNever = {x.pair(never, 0), x.pair(0, never), x.oneOf(never, 1, never, 1), x.mapped(never, 0),
            x.below(never), x.below(x.mapped(never, 4))};
        for (int m : ofNever) {
            left = x.effort();
            due("a maker of kind " + x.maker(m, 0) + " gives up with it", x.make(m, 0, 24), GIVES_UP);
            due("a maker of kind " + x.maker(m, 0) + " gives up with it: effort", x.effort(), left - 8);
        }
    }

    // ---- promise 8

    private static void shuffledLengths() {
        of(8, "OUTSIDE: n is not 1 to 24");
        CaseTrials x = new CaseTrials();
        refused(x, "shuffled(-1)", () -> x.shuffled(-1), OUTSIDE);
        refused(x, "shuffled(0)", () -> x.shuffled(0), OUTSIDE);
        due("shuffled(1)", x.shuffled(1), 0);
        due("shuffled(2)", x.shuffled(2), 1);
        due("shuffled(23)", x.shuffled(23), 2);
        due("shuffled(24)", x.shuffled(24), 3);
        refused(x, "shuffled(25)", () -> x.shuffled(25), OUTSIDE);
        refused(x, "shuffled(MIN)", () -> x.shuffled(MIN), OUTSIDE);
        refused(x, "shuffled(MAX)", () -> x.shuffled(MAX), OUTSIDE);
        of(8, "in some order; WEIGHT n.");
        int[] lengths = {1, 2, 23, 24};
        for (int i = 0; i < lengths.length; i++) {
            due("weight of shuffled " + lengths[i], x.maker(i, 1), lengths[i]);
        }
    }

    private static void shuffledOrder() {
        of(8, "0 .. n - 1 in order; then for i n - 1 down to 1 the one at i and the one at THE NUMBER below i + 1 "
                + "change places.");
        CaseTrials x = new CaseTrials();
        int one = x.shuffled(1);
        int two = x.shuffled(2);
        int three = x.shuffled(3);
        int after = x.whole(0, 99);
        x.make(x.pair(one, after), 8, 0);
        dueCase("nothing is drawn for one", x, "[[0] " + x.draw(8, 0, 100) + "]");
        x.make(x.pair(two, after), 8, 0);
        due("one number is drawn for two", x.sign(9), x.draw(8, 1, 100));
        x.make(two, seedOf(2, 0), 0);
        dueCase("two, 0", x, "[1 0]");
        x.make(two, seedOf(2, 1), 0);
        dueCase("two, 1", x, "[0 1]");
        String[] want = {"[1 2 0]", "[2 1 0]", "[2 0 1]", "[0 2 1]", "[1 0 2]", "[0 1 2]"};
        for (int i = 0; i < 6; i++) {
            x.make(three, seedOf(3, i / 2, 2, i % 2), 0);
            dueCase("three, " + i / 2 + ", " + i % 2, x, want[i]);
        }
        int all = x.shuffled(24);
        for (long seed = -3; seed <= 3; seed++) {
            due("24", x.make(all, seed, 0), 50);
            int[] row = new int[24];
            Draws d = new Draws(seed);
            for (int i = 0; i < 24; i++) {
                row[i] = i;
            }
            for (int i = 23; i > 0; i--) {
                int j = d.below(i + 1);
                int kept = row[j];
                row[j] = row[i];
                row[i] = kept;
            }
            dueCase("24 of seed " + seed, x, java.util.Arrays.toString(row).replace(",", ""));
        }
    }

    // ---- promise 9

    private static void belowBounds() {
        of(9, "then THE NUMBER below 1 and the greater one of 0 and the sum of c's LEAVES (as an int, going round; "
                + "1000000 if it is above).");
        int[][] leaves = {{-1000000}, {-2}, {-1}, {0}, {1}, {2}, {-3, 2}, {-3, 3}, {-3, 4}, {999999}, {1000000},
            {1000000, -1}, {1000000, 1}, {1000000, 1000000}};
        int[] bounds = {0, 0, 0, 0, 1, 2, 0, 0, 1, 999999, 1000000, 999999, 1000000, 1000000};
        for (int i = 0; i < leaves.length; i++) {
            CaseTrials x = new CaseTrials();
            int below = x.below(fixed(x, leaves[i]));
            dueBelow(x, below, leaves[i].length, bounds[i]);
        }
        // 46340 times itself and 88047 is the greatest int; with one more the sum goes round to the least
        CaseTrials x = new CaseTrials();
        int square = x.mapped(x.whole(46340, 46340), 2);
        dueBelow(x, x.below(x.pair(square, x.whole(88046, 88046))), 2, 1000000);
        dueBelow(x, x.below(x.pair(square, x.whole(88047, 88047))), 2, 1000000);
        dueBelow(x, x.below(x.pair(square, x.whole(88048, 88048))), 2, 0);
        // the leaves of its own case alone
        x.make(x.pair(x.whole(50, 50), x.below(x.whole(2, 2))), seedOf(1, 0, 1, 0, 3, 2), 0);
        dueCase("below 2 behind 50", x, "[50 [2 2]]");
        for (long seed = -6; seed < 6; seed++) {
            x.make(x.told(0) - 1, seed, 0);
            due("below 2 behind 50, seed " + seed, x.sign(9), x.draw(seed, 2, 3));
        }
        // the leaves of a row of none have the sum 0
        int list = x.listOf(square, 1);
        x.make(x.below(list), 4, 0);
        dueCase("below of a row of none", x, "[[] 0]");
    }

    private static void dueBelow(CaseTrials x, int below, int leaves, int bound) {
        int after = x.pair(below, x.whole(0, 999));
        for (long seed = -6; seed < 6; seed++) {
            int signs = x.make(after, seed, 0);
            due("below, bound " + bound + ", seed " + seed, x.sign(signs - 3), x.draw(seed, leaves, bound + 1));
            due("behind it, seed " + seed, x.sign(signs - 1), x.draw(seed, leaves + 1, 1000));
        }
    }

    // ---- promise 10

    private static void makerTold() {
        of(10, "0 its kind, 1 its WEIGHT, 2 whether a PICKED one is in it (or it is one; 1, 0). UNKNOWN; OUTSIDE.");
        CaseTrials x = small();
        due("maker(0, 0)", x.maker(0, 0), 0);
        due("maker(0, 1)", x.maker(0, 1), 1);
        due("maker(0, 2)", x.maker(0, 2), 0);
        due("maker(1, 0)", x.maker(1, 0), 6);
        due("maker(1, 1)", x.maker(1, 1), 2);
        due("maker(1, 2)", x.maker(1, 2), 0);
        for (int what : new int[] {MIN, -1, 3, 4, MAX}) {
            refused(x, "maker(1, " + what + ")", () -> x.maker(1, what), OUTSIDE);
        }
        for (int what = -1; what <= 3; what++) {
            int asked = what;
            dueUnknown(x, "maker, what " + what, m -> x.maker(m, asked), 2);
        }
        int[] kinds = {x.listOf(0, 3), x.pair(0, 0), x.oneOf(0, 1, 0, 1), x.mapped(0, 0), x.picked(0, 0), -1,
            x.below(0)};
        for (int kind = 1; kind <= 7; kind++) {
            if (kind != 6) {
                due("kind " + kind, x.maker(kinds[kind - 1], 0), kind);
                due("picked in kind " + kind, x.maker(kinds[kind - 1], 2), kind == 5 ? 1 : 0);
            }
        }
        int picked = kinds[4];
        int[] with = {x.listOf(picked, 2), x.pair(picked, 0), x.pair(0, picked), x.oneOf(picked, 1, 0, 1),
            x.oneOf(0, 1, picked, 1), x.mapped(picked, 0), x.below(picked)};
        for (int m : with) {
            due("picked within kind " + x.maker(m, 0), x.maker(m, 2), 1);
        }
    }

    public static void main(String[] args) {
        newObject();
        constants();
        wholeBounds();
        wholeMade();
        fullOfMakers();
        refusalsInOrder();
        weightOfLists();
        weightOfPairs();
        pairsMade();
        weightOfOneOf();
        weightsAndOne();
        unknown();
        listMost();
        listLengths();
        shares();
        choices();
        functions();
        mappedLeaves();
        mappedGoingRound();
        mappedOfMapped();
        mappedInOrder();
        pickedWithin();
        pickedTries();
        pickedThrows();
        shuffledLengths();
        shuffledOrder();
        belowBounds();
        makerTold();
        end(1, 2, 3, 4, 5, 6, 7, 8, 9, 10);
    }
}
