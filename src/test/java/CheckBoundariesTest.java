import java.util.Arrays;

/** The boundaries that the document names of checks, scripts and machines: promises 11, 15 and 16. */
public final class CheckBoundariesTest extends Sentences {
    private static final int DIVIDES = -11;
    private static final int TELLS = -12;
    private static final int MACHINE = -13;

    // ---- promise 11

    private static void kinds() {
        of(11, "OUTSIDE: kind is not 0 to 11; of 11: a is not 0 to 2, b not 0 to 3");
        CaseTrials x = new CaseTrials();
        for (int kind : new int[] {MIN, -1, 12, 13, MAX}) {
            refused(x, "check(" + kind + ", 0, 0)", () -> x.check(kind, 0, 0), OUTSIDE);
        }
        due("check(0, 0, 0)", x.check(0, 0, 0), 0);
        for (int kind = 1; kind <= 11; kind++) {
            due("check(" + kind + ", 0, 0)", x.check(kind, 0, 0), kind);
        }
        refused(x, "check(12, 0, 0)", () -> x.check(12, 0, 0), OUTSIDE);
        refused(x, "check(-1, 0, 0)", () -> x.check(-1, 0, 0), OUTSIDE);
        int next = 12;
        for (int machine : new int[] {MIN, -1, 0, 1, 2, 3, MAX}) {
            for (int fault : new int[] {MIN, -1, 0, 1, 2, 3, 4, MAX}) {
                String call = "check(11, " + machine + ", " + fault + ")";
                if (machine >= 0 && machine <= 2 && fault >= 0 && fault <= 3) {
                    due(call, x.check(11, machine, fault), next++);
                } else {
                    refused(x, call, () -> x.check(11, machine, fault), OUTSIDE);
                }
            }
        }
    }

    private static void unknown() {
        of(11, "UNKNOWN: of 8, 9 CHECKS a, b, of 10 a; FULL.");
        CaseTrials x = new CaseTrials();
        for (int kind = 8; kind <= 10; kind++) {
            int its = kind;
            refused(x, "check(" + kind + ", 0, 0), none there", () -> x.check(its, 0, 0), UNKNOWN);
        }
        due("check(0, 0, 0)", x.check(0, 0, 0), 0);
        for (int count = 1; count <= 7; count += 3) {
            int last = count - 1;
            for (int place : new int[] {MIN, -1, count, count + 1, 40, MAX}) {
                refused(x, "check(8, " + place + ", 0)", () -> x.check(8, place, 0), UNKNOWN);
                refused(x, "check(8, 0, " + place + ")", () -> x.check(8, 0, place), UNKNOWN);
                refused(x, "check(9, " + place + ", 0)", () -> x.check(9, place, 0), UNKNOWN);
                refused(x, "check(9, 0, " + place + ")", () -> x.check(9, 0, place), UNKNOWN);
                refused(x, "check(10, " + place + ", 0)", () -> x.check(10, place, 0), UNKNOWN);
            }
            due("check(8, last, 0)", x.check(8, last, 0), count);
            due("check(9, 0, last)", x.check(9, 0, count), count + 1);
            due("check(10, last, 0)", x.check(10, count + 1, 0), count + 2);
        }
    }

    private static void notLookedAt() {
        of(11, "(What is not told of is not looked at.)");
        CaseTrials x = new CaseTrials();
        x.make(fixed(x, 2, 1), 0, 0);
        int next = 0;
        for (int b : new int[] {MIN, -1, 4, 99, MAX}) {
            int first = next;
            for (int kind = 0; kind <= 7; kind++) {
                due("check(" + kind + ", 1, " + b + ")", x.check(kind, 1, b), next++);
            }
            // of the leaves 2 and 1: 1 less 1 is no divisor, 2 tells of a place beyond
            int[] want = {0, 1, 0, 0, 1, 1, DIVIDES, TELLS};
            for (int kind = 0; kind <= 7; kind++) {
                due("holds of kind " + kind + ", b " + b, x.holds(first + kind), want[kind]);
            }
        }
        CaseTrials y = new CaseTrials();
        y.make(fixed(y, 2, 1), 0, 0);
        next = 0;
        for (int a : new int[] {MIN, -1, 0, 3, 99, MAX}) {
            due("check(3, " + a + ", 0)", y.check(3, a, 0), next++);
            due("check(4, " + a + ", 0)", y.check(4, a, 0), next++);
            due("check(10, 0, " + a + ")", y.check(10, 0, a), next++);
            due("holds of rising, a " + a, y.holds(next - 3), 0);
            due("holds of no two alike, a " + a, y.holds(next - 2), 1);
            due("holds of not rising, b " + a, y.holds(next - 1), 1);
        }
    }

    private static void full() {
        of(11, "CHECKS, 40 ever, numbered as they come");
        CaseTrials x = new CaseTrials();
        for (int i = 0; i < 40; i++) {
            due("told(1)", x.told(1), i);
            due("check number " + i, x.check(i % 8, 5, 0), i);
        }
        due("told(1)", x.told(1), 40);
        for (int kind = 0; kind <= 11; kind++) {
            int its = kind;
            refused(x, "check(" + kind + ", 0, 0) behind 40", () -> x.check(its, 0, 0), FULL);
        }
        refused(x, "check(12, 0, 0) behind 40", () -> x.check(12, 0, 0), OUTSIDE);
        refused(x, "check(11, 3, 0) behind 40", () -> x.check(11, 3, 0), OUTSIDE);
        refused(x, "check(8, 0, 40) behind 40", () -> x.check(8, 0, 40), UNKNOWN);
        refused(x, "check(9, 40, 0) behind 40", () -> x.check(9, 40, 0), UNKNOWN);
        refused(x, "check(10, 40, 0) behind 40", () -> x.check(10, 40, 0), UNKNOWN);
        refused(x, "check(8, 39, 39) behind 40", () -> x.check(8, 39, 39), FULL);
        // the last one can be asked, and asks the 39 ahead of it
        CaseTrials y = showing(4);
        y.check(1, 4, 0);
        for (int i = 1; i < 40; i++) {
            y.check(10, i - 1, 0);
        }
        due("not of not of ..", y.holds(39), 0);
        due("not of ..", y.holds(38), 1);
    }

    // ---- promise 15, what holds: the kinds of checks that throw nothing

    private static void dueHolds(String words, int kind, int a, int want, int... leaves) {
        due(words + " " + a + " of " + Arrays.toString(leaves), holdsOf(kind, a, 0, leaves), want);
    }

    /** A bench that shows a case of two leaves whose sum is the greatest int, and more. */
    private static CaseTrials sumAboveAll(int more) {
        CaseTrials x = new CaseTrials();
        x.make(x.pair(x.mapped(x.whole(46340, 46340), 2), x.whole(88047 + more, 88047 + more)), 0, 0);
        return x;
    }

    private static void sums() {
        of(15, "(SUM: of its LEAVES, as an int, going round): 0 SUM below a.");
        dueHolds("sum below", 0, 5, 0, 2, 4);
        dueHolds("sum below", 0, 6, 0, 2, 4);
        dueHolds("sum below", 0, 7, 1, 2, 4);
        dueHolds("sum below", 0, -3, 0, 2, -5);
        dueHolds("sum below", 0, -2, 1, 2, -5);
        dueHolds("sum below", 0, -1, 0);
        dueHolds("sum below", 0, 0, 0);
        dueHolds("sum below", 0, 1, 1);
        dueHolds("sum below", 0, MIN, 0, -1000000);
        dueHolds("sum below", 0, MAX, 1, 1000000);
        CaseTrials x = sumAboveAll(-1);
        due("the greatest int less 1", x.holds(x.check(0, MAX, 0)), 1);
        x = sumAboveAll(0);
        due("the greatest int", x.holds(x.check(0, MAX, 0)), 0);
        x = sumAboveAll(1);
        due("gone round to the least int", x.holds(x.check(0, MAX, 0)), 1);
        due("gone round to the least int", x.holds(x.check(0, MIN, 0)), 0);
        due("gone round to the least int", x.holds(x.check(0, MIN + 1, 0)), 1);
    }

    private static void allFrom() {
        of(15, "1 all LEAVES a or more.");
        int[][] rows = {{3}, {3, 4}, {4, 3}, {9, 3, 9}};
        for (int[] row : rows) {
            dueHolds("all from", 1, 2, 1, row);
            dueHolds("all from", 1, 3, 1, row);
            dueHolds("all from", 1, 4, 0, row);
        }
        dueHolds("all from", 1, MAX, 1);
        dueHolds("all from", 1, MIN, 1, -1000000);
        dueHolds("all from", 1, MAX, 0, 1000000);
    }

    private static void fewer() {
        of(15, "2 fewer LEAVES than a.");
        dueHolds("fewer than", 2, -1, 0);
        dueHolds("fewer than", 2, 0, 0);
        dueHolds("fewer than", 2, 1, 1);
        dueHolds("fewer than", 2, 1, 0, 7);
        dueHolds("fewer than", 2, 2, 1, 7);
        dueHolds("fewer than", 2, 2, 0, 7, 7);
        dueHolds("fewer than", 2, 3, 1, 7, 7);
        CaseTrials x = new CaseTrials();
        x.make(x.shuffled(24), 0, 0);
        due("24 fewer than 24", x.holds(x.check(2, 24, 0)), 0);
        due("24 fewer than 25", x.holds(x.check(2, 25, 0)), 1);
        due("24 fewer than MIN", x.holds(x.check(2, MIN, 0)), 0);
        due("24 fewer than MAX", x.holds(x.check(2, MAX, 0)), 1);
    }

    private static void rising() {
        of(15, "3 LEAVES rise (none above the next).");
        dueHolds("rise", 3, 0, 1);
        dueHolds("rise", 3, 0, 1, 5);
        dueHolds("rise", 3, 0, 1, 1, 2);
        dueHolds("rise", 3, 0, 1, 2, 2);
        dueHolds("rise", 3, 0, 0, 3, 2);
        dueHolds("rise", 3, 0, 0, 3, 2, 4);
        dueHolds("rise", 3, 0, 0, 1, 3, 2);
        dueHolds("rise", 3, 0, 1, 1, 3, 3, 4);
        dueHolds("rise", 3, 0, 1, -1000000, 1000000);
        dueHolds("rise", 3, 0, 0, 1000000, -1000000);
    }

    private static void differing() {
        of(15, "4 no two LEAVES alike.");
        dueHolds("no two alike", 4, 0, 1);
        dueHolds("no two alike", 4, 0, 1, 5);
        dueHolds("no two alike", 4, 0, 1, 5, 6);
        dueHolds("no two alike", 4, 0, 0, 5, 5);
        dueHolds("no two alike", 4, 0, 0, 5, 6, 5);
        dueHolds("no two alike", 4, 0, 0, 5, 5, 6);
        dueHolds("no two alike", 4, 0, 0, 6, 5, 5);
        dueHolds("no two alike", 4, 0, 1, 5, -5, 6);
        dueHolds("no two alike", 4, 0, 0, 5, 1, 2, 3, 4, 5);
        CaseTrials x = new CaseTrials();
        x.make(x.shuffled(24), 0, 0);
        due("24 that differ", x.holds(x.check(4, 0, 0)), 1);
    }

    private static void together() {
        of(15, "8 both of two CHECKS (the second one is asked if the first holds), 9 one of two (the second, if the "
                + "first does not hold), 10 not.");
        CaseTrials x = showing(3, 1);
        int yes = x.check(2, 3, 0);
        int no = x.check(2, 2, 0);
        int divides = x.check(5, 0, 0);
        int tells = x.check(7, 0, 0);
        int[] of = {yes, no, divides, tells};
        int[] alone = {1, 0, DIVIDES, TELLS};
        for (int i = 0; i < 4; i++) {
            for (int j = 0; j < 4; j++) {
                due("both of " + alone[i] + " and " + alone[j], x.holds(x.check(8, of[i], of[j])),
                        i == 0 ? alone[j] : alone[i]);
                due("one of " + alone[i] + " and " + alone[j], x.holds(x.check(9, of[i], of[j])),
                        i == 1 ? alone[j] : alone[i]);
            }
        }
        due("not of what holds", x.holds(x.check(10, yes, 0)), 0);
        due("not of what does not", x.holds(x.check(10, no, 0)), 1);
        due("not of what throws 1", x.holds(x.check(10, divides, 0)), DIVIDES);
        due("not of what throws 2", x.holds(x.check(10, tells, 0)), TELLS);
        // one and the same twice
        CaseTrials y = showing(3, 1);
        int one = y.check(2, 2, 0);
        due("both of one", y.holds(y.check(8, one, one)), 0);
        due("one of one", y.holds(y.check(9, one, one)), 0);
        int not = y.check(10, one, 0);
        due("one and its contrary", y.holds(y.check(8, one, not)), 0);
        due("one or its contrary", y.holds(y.check(9, one, not)), 1);
        due("its contrary or one", y.holds(y.check(9, not, one)), 1);
    }

    // ---- promise 15, what is thrown

    private static void sumByZero() {
        of(15, "5 SUM by a leaves 0.");
        dueHolds("sum by", 5, 3, 1, 2, 4);
        dueHolds("sum by", 5, 4, 0, 2, 4);
        dueHolds("sum by", 5, 2, 1, 2, 4);
        dueHolds("sum by", 5, 6, 1, 2, 4);
        dueHolds("sum by", 5, 7, 0, 2, 4);
        dueHolds("sum by", 5, -3, 1, 2, 4);
        dueHolds("sum by", 5, -4, 0, 2, 4);
        dueHolds("sum by", 5, 3, 1, 2, -8);
        dueHolds("sum by", 5, 3, 0, 2, -9);
        dueHolds("sum by", 5, 5, 1);
        dueHolds("sum by", 5, MIN, 1);
        dueHolds("sum by", 5, MIN, 0, 1);
        CaseTrials x = sumAboveAll(1);
        due("the least int by -1", x.holds(x.check(5, -1, 0)), 1);
        due("the least int by itself", x.holds(x.check(5, MIN, 0)), 1);
        due("the least int by the greatest", x.holds(x.check(5, MAX, 0)), 0);
        due("the least int by 0", x.holds(x.check(5, 0, 0)), DIVIDES);
        of(15, "They THROW where a division is by 0 (KIND 1)");
        dueHolds("sum by", 5, -1, 1, 2, 4);
        dueHolds("sum by", 5, 0, DIVIDES, 2, 4);
        dueHolds("sum by", 5, 1, 1, 2, 4);
        dueHolds("sum by", 5, 0, DIVIDES, 0);
        dueHolds("sum by", 5, 0, DIVIDES, 2, -2);
        dueHolds("sum by", 5, 0, DIVIDES);
    }

    private static void quotients() {
        of(15, "the quotient 1000 by (it less a, going round), cut towards 0, is not 7.");
        int[] leaves = {-200, -143, -142, -130, -126, -125, -1, 1, 2, 100, 111, 125, 126, 127, 130, 141, 142, 143, 144,
            999, 1000, 1001, 1000000};
        for (int leaf : leaves) {
            int want = leaf >= 126 && leaf <= 142 ? 0 : 1;
            dueHolds("quotients less", 6, 0, want, leaf);
            dueHolds("quotients less", 6, -50, want, leaf - 50);
            dueHolds("quotients less", 6, 3, want, leaf == 1000000 ? leaf : leaf + 3);
        }
        dueHolds("quotients less", 6, 0, 1);
        dueHolds("quotients less", 6, 0, 1, 125, 143);
        dueHolds("quotients less", 6, 0, 0, 125, 142);
        dueHolds("quotients less", 6, 0, 0, 126, 143);
        dueHolds("quotients by", 6, 5, 1, 4);
        dueHolds("quotients by", 6, 5, DIVIDES, 5);
        dueHolds("quotients by", 6, 5, 1, 6);
        // the least int less this goes round
        CaseTrials x = new CaseTrials();
        x.make(x.mapped(x.mapped(x.whole(32768, 32768), 2), 1), 0, 0);
        due("going round to 125", x.holds(x.check(6, MIN - 125, 0)), 1);
        due("going round to 126", x.holds(x.check(6, MIN - 126, 0)), 0);
        due("going round to 142", x.holds(x.check(6, MIN - 142, 0)), 0);
        due("going round to 143", x.holds(x.check(6, MIN - 143, 0)), 1);
        due("the least int by 0", x.holds(x.check(6, MIN, 0)), DIVIDES);
        due("the least int by the least int", x.holds(x.check(6, 0, 0)), 1);
        dueHolds("quotients by", 6, MIN, 1, 0);
        dueHolds("quotients by", 6, MAX, 1, 0);
    }

    private static void places() {
        of(15, "7 for each LEAF, in order, the LEAF at the place that it tells (from 0 on) is not a.");
        dueHolds("telling of", 7, 9, 1);
        dueHolds("telling of", 7, 0, 0, 0);
        dueHolds("telling of", 7, 1, 1, 0);
        dueHolds("telling of", 7, -1, 1, 0);
        dueHolds("telling of", 7, 1, 0, 1, 0);
        dueHolds("telling of", 7, 0, 0, 1, 0);
        dueHolds("telling of", 7, 2, 1, 1, 0);
        dueHolds("telling of", 7, 0, 0, 2, 2, 0);
        dueHolds("telling of", 7, 2, 0, 2, 2, 0);
        dueHolds("telling of", 7, 1, 1, 2, 2, 0);
        of(15, "a place is beyond (KIND 2)");
        dueHolds("telling of", 7, 9, TELLS, -1);
        dueHolds("telling of", 7, 9, 1, 0);
        dueHolds("telling of", 7, 9, TELLS, 1);
        dueHolds("telling of", 7, 9, TELLS, 0, -1, 0);
        dueHolds("telling of", 7, 9, 1, 0, 1, 2);
        dueHolds("telling of", 7, 9, TELLS, 0, 1, 3);
        dueHolds("telling of", 7, 9, TELLS, 1000000);
        dueHolds("telling of", 7, 9, TELLS, -1000000);
        CaseTrials x = new CaseTrials();
        x.make(x.shuffled(24), 3, 0);
        due("24 that tell of one another", x.holds(x.check(7, 24, 0)), 1);
        due("24 that tell of one another", x.holds(x.check(7, 23, 0)), 0);
    }

    private static void whatComesBehind() {
        of(15, "(6, 7: what comes behind one that is so is not looked at.)");
        dueHolds("7 ahead of a division by 0", 6, 5, 0, 135, 5);
        dueHolds("a division by 0 ahead of 7", 6, 5, DIVIDES, 5, 135);
        dueHolds("neither, then a division by 0", 6, 5, DIVIDES, 6, 5);
        dueHolds("neither, then 7", 6, 5, 0, 6, 135);
        dueHolds("a ahead of a place beyond", 7, 5, 0, 1, 5, 0);
        dueHolds("a place beyond ahead of a", 7, 5, TELLS, 5, 1, 1);
        dueHolds("neither, then a place beyond", 7, 9, TELLS, 0, 3, 0);
    }

    private static void heldOfShown() {
        of(15, "Whether a CHECK holds of the SHOWN CASE: 1, 0; -10 less the KIND of what it throws. UNKNOWN; STATE: "
                + "there is none SHOWN.");
        CaseTrials x = new CaseTrials();
        refused(x, "holds(0), no check, none shown", () -> x.holds(0), UNKNOWN);
        x.check(2, 1, 0);
        x.check(2, 2, 0);
        refused(x, "holds(0), none shown", () -> x.holds(0), STATE);
        refused(x, "holds(1), none shown", () -> x.holds(1), STATE);
        for (int place : new int[] {MIN, -1, 2, 3, 40, MAX}) {
            refused(x, "holds(" + place + "), none shown", () -> x.holds(place), UNKNOWN);
        }
        x.make(x.whole(1, 1), 0, 0);
        due("holds(0)", x.holds(0), 0);
        due("holds(1)", x.holds(1), 1);
        for (int place : new int[] {MIN, -1, 2, 3, 40, MAX}) {
            refused(x, "holds(" + place + ")", () -> x.holds(place), UNKNOWN);
        }
        due("kind 1", x.holds(x.check(5, 0, 0)), -11);
        due("kind 2", x.holds(x.check(7, 0, 0)), -12);
        CaseTrials y = showing(0, 0, 0, 0, 0, 0, 0, 0, 0, 0, 0, 0);
        due("kind 3", y.holds(y.check(11, 0, 3)), -13);
        due("effort", y.effort(), 1500);
    }

    // ---- promise 16

    private static void lengths() {
        of(16, "SCRIPTS: LEAVES two by two: an act (the LEAF's remainder by 4, made not below 0) and a number; a last "
                + "one alone is left out.");
        for (int n = 0; n <= 5; n++) {
            int[] leaves = {4, 8, 3, 7, 7};
            CaseTrials x = showing(Arrays.copyOf(leaves, n));
            for (int i = -1; i <= 3; i++) {
                boolean there = i >= 0 && i < n / 2;
                due(n + " leaves, act " + i, x.script(0, 0, i, 0), there ? leaves[2 * i] % 4 : NO_SIGN);
                due(n + " leaves, number " + i, x.script(0, 0, i, 1), there ? leaves[2 * i + 1] : NO_SIGN);
                due(n + " leaves, answer " + i, x.script(0, 0, i, 2), there ? 1 : NO_SIGN);
                due(n + " leaves, the model's " + i, x.script(0, 0, i, 3), there ? 1 : NO_SIGN);
            }
        }
        CaseTrials x = new CaseTrials();
        x.make(x.shuffled(24), 0, 0);
        due("24 leaves, act 11", x.script(0, 0, 11, 1), x.sign(2 + 2 * 23 + 1));
        due("24 leaves, act 12", x.script(0, 0, 12, 1), NO_SIGN);
        int[] acts = {-1000000, -999999, -9, -8, -7, -6, -5, -4, -3, -2, -1, 0, 1, 2, 3, 4, 5, 999999, 1000000};
        for (int leaf : acts) {
            int remainder = leaf % 4 < 0 ? leaf % 4 + 4 : leaf % 4;
            due("the act of " + leaf, showing(leaf, 5).script(0, 0, 0, 0), remainder);
            // 1 put, -1 taken or told of an empty one, 0 in it
            due("the answer to " + leaf, showing(leaf, 5).script(0, 0, 0, 2), new int[] {1, -1, -1, 0}[remainder]);
        }
        due("the act of -1", showing(-1, 5).script(0, 0, 0, 0), 3);
        due("the act of -4", showing(-4, 5).script(0, 0, 0, 0), 0);
    }

    private static void whatThereIsNot() {
        of(16, "Long.MIN_VALUE: there is none SHOWN, no such act, MACHINE, FAULT, what");
        CaseTrials none = new CaseTrials();
        for (int what = -1; what <= 4; what++) {
            due("none shown, what " + what, none.script(0, 0, 0, what), NO_SIGN);
        }
        CaseTrials x = showing(0, 6, 2, 6, 3, 0);
        for (int machine : new int[] {MIN, -1, 3, MAX}) {
            for (int what = 0; what <= 3; what++) {
                int asked = what;
                refused(x, "machine " + machine, () -> x.script(machine, 0, 0, asked), NO_SIGN);
            }
        }
        for (int fault : new int[] {MIN, -1, 4, MAX}) {
            for (int what = 0; what <= 3; what++) {
                int asked = what;
                refused(x, "fault " + fault, () -> x.script(0, fault, 0, asked), NO_SIGN);
            }
        }
        for (int act : new int[] {MIN, -1, 3, 4, MAX}) {
            for (int what = 0; what <= 3; what++) {
                int asked = what;
                refused(x, "act " + act, () -> x.script(0, 0, act, asked), NO_SIGN);
            }
        }
        for (int what : new int[] {MIN, -1, 4, MAX}) {
            refused(x, "what " + what, () -> x.script(0, 0, 0, what), NO_SIGN);
        }
        of(16, "of act i: what = 0 the act, 1 the number, 2 the MACHINE's answer, 3 the MODEL's.");
        long[][] want = {{0, 6, 1, 1}, {2, 6, 6, 6}, {3, 0, 1, 1}};
        for (int machine = 0; machine <= 2; machine++) {
            want[1][2] = machine == 2 ? 1 : 6;
            want[1][3] = want[1][2];
            for (int fault = 0; fault <= 3; fault++) {
                for (int i = 0; i < 3; i++) {
                    for (int what = 0; what <= 3; what++) {
                        due("script(" + machine + ", " + fault + ", " + i + ", " + what + ")",
                                x.script(machine, fault, i, what), want[i][what]);
                    }
                }
            }
        }
    }

    /** All answers of a machine to a script, of acts and numbers in turn. */
    private static void dueAnswers(String what, int machine, int fault, int[] script, long... want) {
        CaseTrials x = showing(script);
        for (int i = 0; i < want.length; i++) {
            due(what + ", machine " + machine + ", fault " + fault + ", act " + i, x.script(machine, fault, i, 2),
                    want[i]);
        }
        due(what + ": no more acts", x.script(machine, fault, want.length, 0), NO_SIGN);
    }

    private static void emptyMachines() {
        of(16, "act 0 the number is put on top (answer 1; full: 0), 1 the top one goes (it; empty: -1), 2 the top one "
                + "(it; -1), 3 how many.");
        int[] one = {3, 9, 2, 9, 1, 9, 0, 7, 3, 9, 2, 9, 1, 9, 3, 9, 2, 9, 1, 9};
        int[] two = {0, 4, 0, 6, 2, 0, 1, 0, 2, 0, 1, 0, 1, 0};
        dueAnswers("empty", 0, 0, one, 0, -1, -1, 1, 1, 7, 7, 0, -1, -1);
        dueAnswers("two", 0, 0, two, 1, 1, 6, 6, 4, 4, -1);
        of(16, "LINE: likewise, but 1, 2 are of the one that was put first.");
        dueAnswers("empty", 1, 0, one, 0, -1, -1, 1, 1, 7, 7, 0, -1, -1);
        dueAnswers("two", 1, 0, two, 1, 1, 4, 4, 6, 6, -1);
        of(16, "SORTED ROW: 0 the number is put (1; full: 0), 1 the least one goes (it; -1), 2 how many are like the "
                + "number, 3 how many.");
        dueAnswers("empty", 2, 0, one, 0, 0, -1, 1, 1, 0, 7, 0, 0, -1);
        dueAnswers("likes of one", 2, 0, new int[] {2, 7, 0, 7, 2, 6, 2, 7, 2, 8, 0, 7, 2, 7}, 0, 1, 0, 1, 0, 1, 2);
        dueAnswers("two", 2, 0, two, 1, 1, 0, 4, 0, 6, -1);
        dueAnswers("two, the less one later", 2, 0, new int[] {0, 6, 0, 4, 1, 0, 1, 0, 1, 0}, 1, 1, 4, 6, -1);
        dueAnswers("two alike", 2, 0, new int[] {0, 6, 0, 6, 1, 0, 1, 0, 1, 0}, 1, 1, 6, 6, -1);
    }

    /** Puts of 3 8 9 1 8, and further acts and numbers. */
    private static int[] filled(int... further) {
        int[] script = Arrays.copyOf(new int[] {0, 3, 0, 8, 0, 9, 0, 1, 0, 8}, 10 + further.length);
        System.arraycopy(further, 0, script, 10, further.length);
        return script;
    }

    private static void fullMachines() {
        of(16, "MACHINES: 0 a PILE, 1 a LINE, 2 a SORTED ROW, each of five places.");
        int[] count = filled(3, 0);
        int[] sixth = filled(0, 5, 3, 0, 1, 0, 1, 0, 0, 6, 0, 7);
        long[][] taken = {{8, 1}, {3, 8}, {1, 3}};
        for (int machine = 0; machine <= 2; machine++) {
            dueAnswers("five", machine, 0, count, 1, 1, 1, 1, 1, 5);
            dueAnswers("six", machine, 0, sixth, 1, 1, 1, 1, 1, 0, 5, taken[machine][0], taken[machine][1], 1, 1);
            // four are not yet full: the fifth is put
            dueAnswers("four and one", machine, 3, new int[] {0, 3, 0, 8, 0, 9, 0, 1, 3, 0, 0, 8, 3, 0}, 1, 1, 1, 1, 4,
                    1, 5);
        }
        of(16, "WITH FAULT 1: act 0 of a full one: PILE: the lowest goes, the number is put (answer 1); LINE: the "
                + "first goes, the number is put (1); SORTED ROW: the greatest goes, then the number is put (1).");
        int[] all = filled(0, 5, 3, 0, 1, 0, 1, 0, 1, 0, 1, 0, 1, 0);
        dueAnswers("six", 0, 1, all, 1, 1, 1, 1, 1, 1, 5, 5, 8, 1, 9, 8);
        dueAnswers("six", 1, 1, all, 1, 1, 1, 1, 1, 1, 5, 8, 9, 1, 8, 5);
        dueAnswers("six", 2, 1, all, 1, 1, 1, 1, 1, 1, 5, 1, 3, 5, 8, 8);
        int[] above = filled(0, 12, 2, 12, 2, 9, 2, 8);
        dueAnswers("six, the greatest last", 2, 1, above, 1, 1, 1, 1, 1, 1, 1, 0, 2);
        dueAnswers("six, the greatest last", 2, 0, above, 1, 1, 1, 1, 1, 0, 0, 1, 2);
        for (int machine = 0; machine <= 2; machine++) {
            dueAnswers("five", machine, 1, count, 1, 1, 1, 1, 1, 5);
        }
    }

    private static void faultTwo() {
        of(16, "FAULT 2: 1 of an empty one answers 0.");
        int[] script = {1, 0, 2, 6, 3, 0, 0, 6, 1, 0, 1, 0};
        for (int machine = 0; machine <= 2; machine++) {
            long told = machine == 2 ? 0 : -1;
            dueAnswers("empty", machine, 2, script, 0, told, 0, 1, 6, 0);
            for (int fault : new int[] {0, 1, 3}) {
                dueAnswers("empty", machine, fault, script, -1, told, 0, 1, 6, -1);
            }
            // a full one is as one without a fault
            dueAnswers("six", machine, 2, filled(0, 5, 3, 0), 1, 1, 1, 1, 1, 0, 5);
        }
    }

    private static void faultThree() {
        of(16, "what = 2: it throws there, or has thrown ahead of it.");
        int[] script = filled(3, 0, 0, 5, 3, 0, 1, 0, 0, 6);
        for (int machine = 0; machine <= 2; machine++) {
            dueAnswers("six", machine, 3, script, 1, 1, 1, 1, 1, 5, NO_SIGN, NO_SIGN, NO_SIGN, NO_SIGN);
            CaseTrials x = showing(script);
            long taken = new long[] {8, 3, 1}[machine];
            long[] model = {1, 1, 1, 1, 1, 5, 0, 5, taken, 1};
            for (int i = 0; i < model.length; i++) {
                due("the act " + i, x.script(machine, 3, i, 0), script[2 * i]);
                due("the number " + i, x.script(machine, 3, i, 1), script[2 * i + 1]);
                due("the model's answer " + i, x.script(machine, 3, i, 3), model[i]);
                due("the answer " + i + " without a fault", x.script(machine, 0, i, 2), model[i]);
            }
        }
        of(16, "FAULT 3: 0 of a full one throws.");
        for (int machine = 0; machine <= 2; machine++) {
            // one goes and one is put: full again, and not beyond
            dueAnswers("five, one goes, one comes", machine, 3, filled(1, 0, 0, 5, 3, 0), 1, 1, 1, 1, 1,
                    new long[] {8, 3, 1}[machine], 1, 5);
            dueAnswers("five, 1 to 3 of them", machine, 3, filled(2, 4, 3, 0), 1, 1, 1, 1, 1,
                    new long[] {8, 3, 0}[machine], 5);
        }
    }

    private static void goesWithModel() {
        of(15, "It GOES WITH THE MODEL, if all answers are alike.");
        int[] five = filled();
        int[] alone = filled(0);
        int[] six = filled(0, 5);
        int[] none = {};
        int[] half = {1};
        int[] take = {1, 0};
        int[] putTake = {0, 0, 1, 0};
        int[] putTakeTake = {0, 0, 1, 0, 1, 0};
        int[] takeThenSix = {1, 0, 0, 3, 0, 8, 0, 9, 0, 1, 0, 8, 0, 5};
        for (int machine = 0; machine <= 2; machine++) {
            int[][] scripts = {none, half, five, alone, six, take, putTake, putTakeTake, takeThenSix};
            int[][] want = {{1, 1, 1, 1}, {1, 1, 1, 1}, {1, 1, 1, 1}, {1, 1, 1, 1}, {1, 0, 1, MACHINE}, {1, 1, 0, 1},
                {1, 1, 1, 1}, {1, 1, 0, 1}, {1, 0, 0, MACHINE}};
            for (int i = 0; i < scripts.length; i++) {
                for (int fault = 0; fault <= 3; fault++) {
                    due("machine " + machine + ", fault " + fault + " of " + Arrays.toString(scripts[i]),
                            holdsOf(11, machine, fault, scripts[i]), want[i][fault]);
                }
            }
        }
        of(15, "a MACHINE throws (KIND 3)");
        for (int machine = 0; machine <= 2; machine++) {
            CaseTrials x = showing(six);
            int throwing = x.check(11, machine, 3);
            due("it throws", x.holds(throwing), MACHINE);
            due("not of it throws", x.holds(x.check(10, throwing, 0)), MACHINE);
            due("five do not throw", holdsOf(11, machine, 3, five), 1);
            due("a sixth without a number does not", holdsOf(11, machine, 3, alone), 1);
        }
    }

    public static void main(String[] args) {
        kinds();
        unknown();
        notLookedAt();
        full();
        sums();
        allFrom();
        fewer();
        rising();
        differing();
        together();
        sumByZero();
        quotients();
        places();
        whatComesBehind();
        heldOfShown();
        lengths();
        whatThereIsNot();
        emptyMachines();
        fullMachines();
        faultTwo();
        faultThree();
        goesWithModel();
        end(11, 15, 16);
    }
}
