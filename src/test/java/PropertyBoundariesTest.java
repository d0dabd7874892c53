/** The boundaries that the document names of properties, runs, their budget and what is told: promises 18 to 24. */
public final class PropertyBoundariesTest extends Sentences {
    private static final int ALL_HELD = 0;
    private static final int FAILED = 1;
    private static final int GAVE_UP = 2;
    private static final int RAN_OUT = 3;

    // ---- promises 18 and 19

    private static void properties() {
        of(18, "A PROPERTY: its number. UNKNOWN: maker, check; FULL.");
        CaseTrials x = new CaseTrials();
        refused(x, "property(0, 0), none there", () -> x.property(0, 0), UNKNOWN);
        x.whole(0, 9);
        refused(x, "property(0, 0), no check", () -> x.property(0, 0), UNKNOWN);
        x.whole(0, 9);
        for (int i = 0; i < 3; i++) {
            x.check(2, 25, 0);
        }
        for (int place : new int[] {MIN, -1, 2, 3, 30, MAX}) {
            refused(x, "property(" + place + ", 0)", () -> x.property(place, 0), UNKNOWN);
        }
        for (int place : new int[] {MIN, -1, 3, 4, 40, MAX}) {
            refused(x, "property(0, " + place + ")", () -> x.property(0, place), UNKNOWN);
        }
        of(18, "PROPERTIES, 20 ever");
        for (int i = 0; i < 20; i++) {
            due("told(2)", x.told(2), i);
            due("property number " + i, x.property(i % 2, i % 3), i);
        }
        refused(x, "the 21st", () -> x.property(0, 0), FULL);
        refused(x, "the 21st of the last ones", () -> x.property(1, 2), FULL);
        refused(x, "the 21st of no maker", () -> x.property(2, 0), UNKNOWN);
        refused(x, "the 21st of no check", () -> x.property(0, 3), UNKNOWN);
        due("the 20th runs", x.run(19, 0, 2, 0), ALL_HELD);
        due("the 20th ran", x.ran(1), 2);
    }

    private static void labels() {
        of(19, "A LABEL more: how many it has. UNKNOWN: property, check; FULL: three.");
        CaseTrials x = new CaseTrials();
        refused(x, "label(0, 0), none there", () -> x.label(0, 0), UNKNOWN);
        x.whole(0, 9);
        x.check(2, 25, 0);
        x.check(2, 0, 0);
        refused(x, "label(0, 0), no property", () -> x.label(0, 0), UNKNOWN);
        x.property(0, 0);
        x.property(0, 0);
        for (int place : new int[] {MIN, -1, 2, 3, 20, 30, MAX}) {
            refused(x, "label(" + place + ", 0)", () -> x.label(place, 0), UNKNOWN);
            refused(x, "label(0, " + place + ")", () -> x.label(0, place), UNKNOWN);
        }
        due("the first", x.label(1, 0), 1);
        due("the second", x.label(1, 1), 2);
        due("the third", x.label(1, 0), 3);
        refused(x, "the fourth", () -> x.label(1, 0), FULL);
        refused(x, "the fourth, again", () -> x.label(1, 1), FULL);
        refused(x, "the fourth, no check", () -> x.label(1, 2), UNKNOWN);
        due("the first of another", x.label(0, 1), 1);
        due("the run", x.run(1, 0, 4, 0), ALL_HELD);
        dueRan("three labels", x, ALL_HELD, 4, NONE, 0, 0, 4, 0, 4);
        due("the run of another", x.run(0, 0, 5, 0), ALL_HELD);
        dueRan("one label", x, ALL_HELD, 5, NONE, 0, 0, 0, 0, 0);
    }

    // ---- promise 20

    private static void runRefused() {
        of(20, "A RUN: 0 to 3. UNKNOWN; OUTSIDE: n is not 1 to 50, size.");
        CaseTrials x = new CaseTrials();
        refused(x, "run(0, 0, 1, 0), no property", () -> x.run(0, 0, 1, 0), UNKNOWN);
        x.whole(0, 9);
        x.check(2, 25, 0);
        x.property(0, 0);
        x.property(0, 0);
        for (int ran = 0; ran < 2; ran++) {
            for (int place : new int[] {MIN, -1, 2, 3, 20, MAX}) {
                refused(x, "run(" + place + ", 0, 1, 0)", () -> x.run(place, 0, 1, 0), UNKNOWN);
                refused(x, "run(" + place + ", 0, 0, 25)", () -> x.run(place, 0, 0, 25), UNKNOWN);
            }
            for (int n : new int[] {MIN, -1, 0, 51, 52, MAX}) {
                refused(x, "run(0, 0, " + n + ", 0)", () -> x.run(0, 0, n, 0), OUTSIDE);
            }
            for (int size : new int[] {MIN, -1, 25, 26, MAX}) {
                refused(x, "run(0, 0, 1, " + size + ")", () -> x.run(0, 0, 1, size), OUTSIDE);
            }
            due("none has run, or one has", x.ran(1), ran == 0 ? NONE : 3);
            due("a run", x.run(1, 0, 3, 0), ALL_HELD);
        }
        int left = x.effort();
        for (int n : new int[] {1, 2, 49, 50}) {
            due("run(0, 0, " + n + ", 24)", x.run(0, 0, n, 24), ALL_HELD);
            due("run(0, 0, " + n + ", 24): made", x.ran(1), n);
            left -= n;
            due("run(0, 0, " + n + ", 24): effort", x.effort(), left);
        }
        for (int size : new int[] {0, 1, 23, 24}) {
            due("run(0, 0, 1, " + size + ")", x.run(0, 0, 1, size), ALL_HELD);
        }
    }

    private static void sizesOfRuns() {
        of(20, "A RUN by a seed, of n cases (1 .. 50) with a SIZE");
        for (int size : new int[] {0, 1, 4, 5, 24}) {
            CaseTrials x = new CaseTrials();
            int list = x.listOf(x.whole(0, 0), 5);
            int all = x.property(list, x.check(2, Math.min(size, 5) + 1, 0));
            int most = x.property(list, x.check(2, Math.min(size, 5), 0));
            due("none of more than size " + size, x.run(all, 3, 50, size), ALL_HELD);
            due("one of size " + size, x.run(most, 3, 50, size), FAILED);
            x.show(true);
            due("one of size " + size + ": leaves", x.told(3), Math.min(size, 5));
        }
    }

    /** The number that a whole from 0 to 999 has in case k of a run. */
    private static int inRun(long seed, int k) {
        return new Draws(seed + k * STRIDE).below(1000);
    }

    private static void casesOfRuns() {
        of(20, "for k 0 .. n - 1: THE DRAW is the seed and k times -7046029254386353131 (going round)");
        for (long seed : new long[] {0, 1, -1, 77, Long.MIN_VALUE, Long.MAX_VALUE, STRIDE, -STRIDE}) {
            CaseTrials x = new CaseTrials();
            int m = x.whole(0, 999);
            int[] label = {x.check(0, 500, 0), x.check(5, 2, 0), x.check(5, 3, 0)};
            int p = x.property(m, x.check(2, 25, 0));
            int[] counted = new int[3];
            for (int i = 0; i < 3; i++) {
                x.label(p, label[i]);
            }
            for (int k = 0; k < 50; k++) {
                int leaf = inRun(seed, k);
                counted[0] += leaf < 500 ? 1 : 0;
                counted[1] += leaf % 2 == 0 ? 1 : 0;
                counted[2] += leaf % 3 == 0 ? 1 : 0;
            }
            due("run by " + seed, x.run(p, seed, 50, 0), ALL_HELD);
            dueRan("run by " + seed, x, ALL_HELD, 50, NONE, 0, 0, counted[0], counted[1], counted[2]);
            // the greatest of 50 fails in its place
            int greatest = 0;
            for (int k = 0; k < 50; k++) {
                greatest = inRun(seed, k) > inRun(seed, greatest) ? k : greatest;
            }
            int fails = x.property(m, x.check(0, inRun(seed, greatest), 0));
            due("run by " + seed + " that fails", x.run(fails, seed, 50, 0), FAILED);
            due("run by " + seed + " that fails: k", x.ran(2), greatest);
            due("run by " + seed + " that fails: made", x.ran(1), greatest + 1);
            x.show(true);
            due("run by " + seed + " that fails: the case", x.sign(1), inRun(seed, greatest));
            x.make(m, seed + greatest * STRIDE, 0);
            due("run by " + seed + " that fails: made again", x.sign(1), inRun(seed, greatest));
        }
    }

    /** A seed by which the greatest leaf of the cases 0 .. k of a run is that of case k. */
    private static long greatestAt(int k) {
        for (long seed = 0; seed < 1000000; seed++) {
            boolean greatest = true;
            for (int i = 0; i < k && greatest; i++) {
                greatest = inRun(seed, i) < inRun(seed, k);
            }
            if (greatest) {
                return seed;
            }
        }
        throw new IllegalStateException("no seed");
    }

    private static void firstThatFails() {
        of(20, "if the CHECK does not hold, or throws, it is THE FAILING CASE (k kept; 1). If none fails: 0.");
        for (int k : new int[] {0, 1, 48, 49}) {
            CaseTrials x = new CaseTrials();
            int m = x.whole(0, 999);
            long seed = greatestAt(k);
            int leaf = inRun(seed, k);
            int p = x.property(m, x.check(0, leaf, 0));
            if (k > 0) {
                due("the case " + k + " would fail, " + k + " cases", x.run(p, seed, k, 0), ALL_HELD);
                dueRan("the case " + k + " would fail", x, ALL_HELD, k, NONE, 0, 0, 0, 0, 0);
                refused(x, "show(true), none fails", () -> x.show(true), STATE);
            }
            int left = x.effort();
            due("the case " + k + " fails, " + (k + 1) + " cases", x.run(p, seed, k + 1, 0), FAILED);
            due("made", x.ran(1), k + 1);
            due("k", x.ran(2), k);
            due("steps: none smaller fails", x.ran(3), 0);
            due("it threw", x.ran(4), 0);
            int asked = 0;
            for (int d = leaf; d > 0; d /= 2) {
                asked++;
            }
            due("asked: each case, and all smaller ones", left - x.effort(), k + 1 + asked);
        }
        // one that throws fails, by each kind; of the same maker, one that holds does not
        int[][] leaves = {{5}, {1}, {0, 0, 0, 0, 0, 0, 0, 0, 0, 0, 0, 0}};
        int[][] throwing = {{5, 0, 0}, {7, 9, 0}, {11, 0, 3}};
        int[][] holding = {{5, 1, 0}, {2, 2, 0}, {11, 0, 2}};
        for (int i = 0; i < 3; i++) {
            CaseTrials x = new CaseTrials();
            int m = fixed(x, leaves[i]);
            int p = x.property(m, x.check(throwing[i][0], throwing[i][1], throwing[i][2]));
            due("throws kind " + (i + 1), x.run(p, 0, 1, 0), FAILED);
            dueRan("throws kind " + (i + 1), x, FAILED, 1, 0, 0, i + 1, 0, 0, 0);
            p = x.property(m, x.check(holding[i][0], holding[i][1], holding[i][2]));
            due("does not throw", x.run(p, 0, 1, 0), ALL_HELD);
            dueRan("does not throw", x, ALL_HELD, 1, NONE, 0, 0, 0, 0, 0);
        }
    }

    private static void labelsCounted() {
        of(20, "for each LABEL it is counted, if it holds (one that throws does not)");
        CaseTrials x = new CaseTrials();
        int m = x.whole(0, 9);
        int p = x.property(m, x.check(0, 9, 0));
        x.label(p, x.check(5, 0, 0));
        x.label(p, x.check(6, 5, 0));
        x.label(p, x.check(0, 9, 0));
        // a case k with 9 fails and is counted as it was made; 5 throws by the second label
        int[] want = new int[8];
        long seed = 0;
        int leaf = 0;
        for (int k = 0; leaf != 9; k++) {
            leaf = new Draws(seed + k * STRIDE).below(10);
            want[1]++;
            want[2] = k;
            want[6] += leaf != 5 ? 1 : 0;
            want[7] += leaf != 9 ? 1 : 0;
        }
        due("one that fails", x.run(p, seed, 50, 0), FAILED);
        want[0] = FAILED;
        dueRan("labels of a run that fails", x, want);
        due("labels cost no effort", x.effort(), 1500 - want[1] - 4);
    }

    private static void givesUp() {
        of(20, "the CASE is made; if that GIVES UP, the RUN does (2)");
        CaseTrials x = new CaseTrials();
        int digit = x.whole(0, 9);
        int always = x.check(2, 25, 0);
        int picked = x.picked(digit, x.check(0, 1, 0));
        int p = x.property(picked, always);
        x.label(p, always);
        long eighth = seedOfFirst(10, 0, 7);
        long ninth = seedOfFirst(10, 0, 8);
        due("made at the eighth", x.run(p, eighth, 1, 0), ALL_HELD);
        dueRan("made at the eighth", x, ALL_HELD, 1, NONE, 0, 0, 1, 0, 0);
        due("made at the eighth: effort", x.effort(), 1500 - 9);
        due("not made at the eighth", x.run(p, ninth, 1, 0), GAVE_UP);
        dueRan("not made at the eighth", x, GAVE_UP, 0, NONE, 0, 0, 0, 0, 0);
        due("not made at the eighth: effort", x.effort(), 1500 - 9 - 8);
        refused(x, "show(true), given up", () -> x.show(true), STATE);
        refused(x, "show(false), given up", () -> x.show(false), STATE);
        // the third case gives up, the two ahead of it are counted
        long seed = 0;
        while (first(seed, 0) > 7 || first(seed, 1) > 7 || first(seed, 2) <= 7) {
            seed++;
        }
        int left = x.effort();
        due("the third", x.run(p, seed, 50, 0), GAVE_UP);
        dueRan("the third", x, GAVE_UP, 2, NONE, 0, 0, 2, 0, 0);
        due("the third: effort", x.effort(), left - (first(seed, 0) + 2) - (first(seed, 1) + 2) - 8);
        due("two of them", x.run(p, seed, 2, 0), ALL_HELD);
        // a check that throws
        int throwing = x.property(x.picked(digit, x.check(5, 0, 0)), always);
        left = x.effort();
        due("the picked one's check throws", x.run(throwing, 0, 50, 0), GAVE_UP);
        dueRan("the picked one's check throws", x, GAVE_UP, 0, NONE, 0, 0, 0, 0, 0);
        due("the picked one's check throws: effort", x.effort(), left - 1);
    }

    /** The place of the first 0 among the digits of case k of a run. */
    private static int first(long seed, int k) {
        Draws d = new Draws(seed + k * STRIDE);
        int place = 0;
        while (d.below(10) != 0) {
            place++;
        }
        return place;
    }

    private static void steps() {
        of(20, "Then it is made smaller: the first of its SMALLER CASES for which the CHECK does not hold or throws "
                + "takes its place, as long as there is one: that many STEPS.");
        // each fails from a limit on: of 97 are asked 0 49 73 85 91 94 96, then those of the first that fails
        int[] limits = {97, 96, 95, 50, 49, 48, 1, 0};
        int[] steps = {0, 1, 2, 5, 1, 2, 7, 1};
        for (int i = 0; i < limits.length; i++) {
            CaseTrials x = new CaseTrials();
            int p = x.property(x.whole(0, 100), x.check(0, limits[i], 0));
            String run = "97 fails from " + limits[i];
            due(run, x.run(p, seedOf(101, 97), 1, 0), FAILED);
            dueRan(run, x, FAILED, 1, 0, steps[i], 0, 0, 0, 0);
            due(run + ": effort", x.effort(), 1500 - 1 - askedOf(97, limits[i]));
            x.show(false);
            due(run + ": in the end", x.sign(1), limits[i]);
            x.show(true);
            due(run + ": as made", x.sign(1), 97);
        }
        // one that throws takes the place of one that does not hold, and the other way round
        CaseTrials x = new CaseTrials();
        int m = x.whole(0, 100);
        int zeroThrows = x.property(m, x.check(8, x.check(6, 0, 0), x.check(0, 5, 0)));
        due("7, then 0 throws", x.run(zeroThrows, seedOf(101, 7), 1, 0), FAILED);
        dueRan("7, then 0 throws", x, FAILED, 1, 0, 1, 1, 0, 0, 0);
        int fourThrows = x.property(m, x.check(8, x.check(6, 4, 0), x.check(0, 2, 0)));
        due("4 throws, then 2 does not hold", x.run(fourThrows, seedOf(101, 4), 1, 0), FAILED);
        dueRan("4 throws, then 2 does not hold", x, FAILED, 1, 0, 1, 0, 0, 0, 0);
        x.show(false);
        dueCase("4 throws, then 2 does not hold", x, "2");
    }

    /** How many smaller ones are asked till none of a leaf's is at the limit or above it. */
    private static int askedOf(int leaf, int limit) {
        int asked = 0;
        for (int d = leaf; d > 0; d /= 2) {
            asked++;
            if (leaf - d >= limit) {
                return asked + askedOf(leaf - d, limit);
            }
        }
        return asked;
    }

    // ---- promise 21

    private static void dueRan(String run, CaseTrials x, int... want) {
        for (int what = 0; what < 8; what++) {
            due(run + ": ran(" + what + ")", x.ran(what), want[what]);
        }
    }

    private static void ranTold() {
        of(21, "NONE ahead of any. OUTSIDE.");
        CaseTrials x = new CaseTrials();
        int[] outside = {MIN, -1, 8, 9, MAX};
        for (int what : outside) {
            refused(x, "ran(" + what + "), none ran", () -> x.ran(what), OUTSIDE);
        }
        dueRan("none ran", x, NONE, NONE, NONE, NONE, NONE, NONE, NONE, NONE);
        x.whole(0, 9);
        x.check(2, 25, 0);
        x.property(0, 0);
        x.run(0, 0, 0, 0);
        x.run(0, 0, 51, 0);
        x.run(1, 0, 1, 0);
        dueRan("none ran but refused ones", x, NONE, NONE, NONE, NONE, NONE, NONE, NONE, NONE);
        x.run(0, 0, 1, 0);
        dueRan("one ran", x, 0, 1, NONE, 0, 0, 0, 0, 0);
        for (int what : outside) {
            refused(x, "ran(" + what + ")", () -> x.ran(what), OUTSIDE);
        }
        of(21, "4 the KIND that the CHECK threw of the last one (0: it threw none, none failed)");
        // 7 fails and 0 throws; then 145 throws nothing, and is made smaller to one that throws nothing
        int m = x.whole(0, 100);
        int throwing = x.property(m, x.check(8, x.check(6, 0, 0), x.check(0, 5, 0)));
        x.run(throwing, seedOf(101, 7), 1, 0);
        due("the last one threw", x.ran(4), 1);
        x.run(throwing, seedOf(101, 3), 1, 0);
        due("none failed", x.ran(4), 0);
        int simple = x.property(m, x.check(0, 50, 0));
        x.run(throwing, seedOf(101, 7), 1, 0);
        x.run(simple, seedOf(101, 70), 1, 0);
        due("it threw none", x.ran(4), 0);
        due("a later run: k", x.ran(2), 0);
        x.run(simple, seedOf(101, 49), 1, 0);
        dueRan("a later run that holds", x, ALL_HELD, 1, NONE, 0, 0, 0, 0, 0);
    }

    /** The leaf of case k of a run by wholes from 0 to 100. */
    private static int caseOf(long seed, int k) {
        return new Draws(seed + k * STRIDE).below(101);
    }

    /** By how many steps a leaf is made smaller, if what is at the limit or above it fails. */
    private static int stepsOf(int leaf, int limit) {
        for (int d = leaf; d > 0; d /= 2) {
            if (leaf - d >= limit) {
                return 1 + stepsOf(leaf - d, limit);
            }
        }
        return 0;
    }

    private static void ranByEnd() {
        of(21, "Of the latest RUN: 0 what it ended with, 1 how many CASES were made whole, 2 THE FAILING CASE's k "
                + "(NONE), 3 STEPS");
        CaseTrials x = budget(1500);
        int never = x.property(x.picked(0, x.check(2, 0, 0)), 0);
        x.run(0, 5, 2, 0);
        dueRan("all held", x, ALL_HELD, 2, NONE, 0, 0, 0, 0, 0);
        x.run(1, seedOf(101, 97), 2, 0);
        dueRan("the first failed", x, FAILED, 1, 0, 4, 0, 0, 0, 0);
        long second = 0;
        while (second < 10000 && (caseOf(second, 0) >= 40 || caseOf(second, 1) <= 40)) {
            second++;
        }
        x.run(1, second, 2, 0);
        dueRan("the second failed", x, FAILED, 2, 1, stepsOf(caseOf(second, 1), 40), 0, 0, 0, 0);
        x.run(never, 5, 2, 0);
        dueRan("given up", x, GAVE_UP, 0, NONE, 0, 0, 0, 0, 0);
        x.run(1, seedOf(101, 40), 2, 0);
        dueRan("failed with no step", x, FAILED, 1, 0, 0, 0, 0, 0, 0);
        spend(x, 0, 1);
        x.run(0, 5, 3, 0);
        dueRan("spent at the second", x, RAN_OUT, 2, NONE, 0, 0, 0, 0, 0);
        of(21, "5, 6, 7 how often its LABEL 0, 1, 2 held.");
        CaseTrials y = budget(1500);
        int p = y.property(0, 0);
        int[] labels = {y.check(0, 50, 0), y.check(2, 25, 0), y.check(2, 0, 0)};
        int low = 0;
        for (int k = 0; k < 50; k++) {
            low += new Draws(9 + k * STRIDE).below(101) < 50 ? 1 : 0;
        }
        int[] held = {low, 50, 0};
        int[] want = {ALL_HELD, 50, NONE, 0, 0, 0, 0, 0};
        for (int i = 0; i <= 3; i++) {
            y.run(p, 9, 50, 0);
            dueRan(i + " labels", y, want);
            if (i < 3) {
                y.label(p, labels[i]);
                dueRan(i + " labels, and one more behind the run", y, want);
                want[5 + i] = held[i];
            }
        }
    }

    // ---- promise 22

    private static void shownOfRuns() {
        of(22, "The SHOWN CASE becomes THE FAILING CASE of the latest RUN, as it was made (first), or as it was in the "
                + "end: how many SIGNS. STATE: there is none.");
        CaseTrials x = new CaseTrials();
        refused(x, "show(true), none ran", () -> x.show(true), STATE);
        refused(x, "show(false), none ran", () -> x.show(false), STATE);
        int list = x.listOf(x.whole(0, 9), 4);
        int two = x.property(list, x.check(2, 2, 0));
        int all = x.property(list, x.check(2, 25, 0));
        long seed = seedOf(5, 4, 10, 5, 10, 6, 10, 7, 10, 8);
        due("run", x.run(two, seed, 1, 24), FAILED);
        due("nothing is shown by a run", x.told(3), NONE);
        due("as it was made", x.show(true), 10);
        dueCase("as it was made", x, "[5 6 7 8]");
        due("as it was in the end", x.show(false), 6);
        dueCase("as it was in the end", x, "[0 0]");
        due("smaller of it", x.smaller(0), 2);
        due("as it was in the end, again", x.show(false), 6);
        dueCase("as it was in the end, again", x, "[0 0]");
        due("as it was made, again", x.show(true), 10);
        dueCase("as it was made, again", x, "[5 6 7 8]");
        due("smaller of it", x.smaller(1), 6);
        dueCase("smaller of it", x, "[7 8]");
        // a refused run is none
        x.run(two, seed, 0, 24);
        x.run(9, seed, 1, 24);
        due("behind refused ones", x.show(false), 6);
        due("a run that holds", x.run(all, seed, 1, 24), ALL_HELD);
        refused(x, "show(true), none failed", () -> x.show(true), STATE);
        refused(x, "show(false), none failed", () -> x.show(false), STATE);
        dueCase("the shown one stays", x, "[0 0]");
        // with no step both are one
        due("a run with no step", x.run(x.property(x.whole(7, 7), x.check(0, 7, 0)), 0, 1, 0), FAILED);
        due("as made", x.show(true), 2);
        dueCase("as made", x, "7");
        due("in the end", x.show(false), 2);
        dueCase("in the end", x, "7");
    }

    // ---- promise 23

    /** A bench with the maker 0 of wholes 0 to 100, a property 0 of it that holds, and 1 that fails from 40 on. */
    private static CaseTrials budget(int left) {
        CaseTrials x = new CaseTrials();
        int m = x.whole(0, 100);
        x.property(m, x.check(2, 25, 0));
        x.property(m, x.check(0, 40, 0));
        spend(x, 0, left);
        return x;
    }

    private static void effortSpent() {
        of(23, "EFFORT, 1500 at first: each time a CASE is held against the CHECK of a PROPERTY in a RUN, or of a "
                + "PICKED MAKER, it is one less.");
        CaseTrials x = budget(1500);
        due("at first", x.effort(), 1500);
        x.run(0, 0, 1, 0);
        due("a run of one", x.effort(), 1499);
        x.run(0, 0, 50, 0);
        due("a run of 50", x.effort(), 1449);
        x.label(0, 0);
        x.label(0, 1);
        x.run(0, 0, 50, 0);
        due("a run of 50 with labels", x.effort(), 1399);
        x.holds(0);
        x.make(0, 0, 0);
        x.holds(0);
        x.holds(1);
        x.smaller(0);
        x.show(true);
        x.run(0, 0, 0, 0);
        due("what asks no property and no picked one", x.effort(), 1399);
        int picked = x.picked(0, 1);
        x.make(picked, seedOf(101, 39), 0);
        due("a picked one", x.effort(), 1398);
        x.make(picked, seedOf(101, 40, 101, 39), 0);
        due("a picked one at the second try", x.effort(), 1396);
        of(23, "If there is none left for that, a RUN ends: 3 (SPENT)");
        for (int left = 0; left <= 4; left++) {
            CaseTrials y = budget(left);
            due("effort", y.effort(), left);
            due("a run of 3 with " + left, y.run(0, 5, 3, 0), left < 3 ? RAN_OUT : ALL_HELD);
            dueRan("a run of 3 with " + left, y, left < 3 ? RAN_OUT : ALL_HELD, Math.min(3, left + 1), NONE, 0, 0, 0,
                    0, 0);
            due("a run of 3 with " + left + ": effort", y.effort(), Math.max(0, left - 3));
            refused(y, "show(true)", () -> y.show(true), STATE);
        }
        CaseTrials z = budget(0);
        due("a run with none", z.run(0, 5, 1, 0), RAN_OUT);
        due("a run of 50 with none", z.run(0, 5, 50, 0), RAN_OUT);
        due("never below 0", z.effort(), 0);
    }

    private static void spentWhileMadeSmaller() {
        of(23, "or, while THE FAILING CASE is made smaller, 1 (it stays as it is)");
        // 97 (1); 0 49 (3); 0 25 37 43 (7); 0 22 33 38 41 (12); 0 21 31 36 39 40 (18); 0 20 30 35 38 39 (24)
        int[] needed = {3, 7, 12, 18};
        int[] leaves = {97, 49, 43, 41, 40};
        for (int left = 0; left <= 25; left++) {
            CaseTrials x = budget(left);
            int steps = 0;
            while (steps < 4 && needed[steps] <= left) {
                steps++;
            }
            String run = "97 with " + left + " left";
            due(run, x.run(1, seedOf(101, 97), 1, 0), left == 0 ? RAN_OUT : FAILED);
            dueRan(run, x, left == 0 ? RAN_OUT : FAILED, 1, left == 0 ? NONE : 0, steps, 0, 0, 0, 0);
            due(run + ": effort", x.effort(), Math.max(0, left - 24));
            if (left == 0) {
                refused(x, run + ": show(false)", () -> x.show(false), STATE);
            } else {
                x.show(true);
                dueCase(run + ", as made", x, "97");
                x.show(false);
                dueCase(run + ", in the end", x, "" + leaves[steps]);
            }
        }
    }

    private static void spentOnPicked() {
        of(23, "other calls tell SPENT (-6).");
        long third = seedOf(101, 60, 101, 50, 101, 30);
        for (int left = 0; left <= 5; left++) {
            CaseTrials x = budget(left);
            int picked = x.picked(0, 1);
            due("make of the third try with " + left, x.make(picked, third, 0), left < 3 ? SPENT : 2);
            due("effort", x.effort(), Math.max(0, left - 3));
            due("shown", x.told(3), left < 3 ? NONE : 1);
            if (left >= 3) {
                due("smaller of it", x.smaller(1), left < 5 ? SPENT : 2);
                dueCase("smaller of it", x, left < 5 ? "30" : "15");
                due("smaller of it: effort", x.effort(), 0);
            }
        }
        // a run: the picked one asks, then the property
        for (int left = 0; left <= 5; left++) {
            CaseTrials x = budget(left);
            int p = x.property(x.picked(0, 1), 0);
            x.label(p, 0);
            int end = left < 4 ? RAN_OUT : ALL_HELD;
            due("a run of the third try with " + left, x.run(p, third, 1, 0), end);
            dueRan("a run of the third try with " + left, x, end, left < 3 ? 0 : 1, NONE, 0, 0, left < 3 ? 0 : 1, 0, 0);
            due("effort", x.effort(), Math.max(0, left - 4));
        }
        // made smaller: of 30, 0 is asked and held, 15 is asked and fails, and so on
        for (int left = 0; left <= 8; left++) {
            CaseTrials x = budget(left);
            int below10 = x.check(0, 10, 0);
            int p = x.property(x.picked(0, 1), below10);
            due("a run of 30 with " + left, x.run(p, seedOf(101, 30), 1, 0), left < 2 ? RAN_OUT : FAILED);
            due("a run of 30 with " + left + ": made", x.ran(1), left < 1 ? 0 : 1);
            due("a run of 30 with " + left + ": steps", x.ran(3), left < 6 ? 0 : 1);
            due("a run of 30 with " + left + ": effort", x.effort(), 0);
            if (left >= 2) {
                x.show(false);
                dueCase("a run of 30 with " + left, x, left < 6 ? "30" : "15");
            }
        }
        // what asks none is as ever
        CaseTrials x = budget(0);
        due("make", x.make(0, seedOf(101, 97), 0), 2);
        due("smaller", x.smaller(1), 2);
        dueCase("smaller", x, "49");
        due("holds", x.holds(1), 0);
        due("draw", x.draw(0, 0, 1), 0);
        due("effort", x.effort(), 0);
    }

    // ---- promise 24

    private static void told() {
        of(24, "How many: 0 MAKERS, 1 CHECKS, 2 PROPERTIES, 3 LEAVES of the SHOWN CASE (NONE: there is none). "
                + "OUTSIDE.");
        CaseTrials x = new CaseTrials();
        int[] outside = {MIN, -1, 4, 5, MAX};
        for (int what : outside) {
            refused(x, "told(" + what + ")", () -> x.told(what), OUTSIDE);
        }
        due("told(3), none shown", x.told(3), NONE);
        int leaf = x.whole(1, 1);
        int list = x.listOf(leaf, 24);
        for (int i = 0; i < 3; i++) {
            x.check(0, 0, 0);
        }
        for (int i = 0; i < 4; i++) {
            x.property(0, 0);
        }
        due("told(0)", x.told(0), 2);
        due("told(1)", x.told(1), 3);
        due("told(2)", x.told(2), 4);
        for (int n : new int[] {0, 1, 2, 23, 24}) {
            x.make(list, seedOf(25, n), 24);
            due("told(3) of a row of " + n, x.told(3), n);
        }
        x.make(leaf, 0, 0);
        due("told(3) of a leaf", x.told(3), 1);
        x.make(x.pair(x.pair(leaf, leaf), leaf), 0, 0);
        due("told(3) of rows in rows", x.told(3), 3);
        for (int what : outside) {
            refused(x, "told(" + what + ")", () -> x.told(what), OUTSIDE);
        }
    }

    public static void main(String[] args) {
        properties();
        labels();
        runRefused();
        sizesOfRuns();
        casesOfRuns();
        firstThatFails();
        labelsCounted();
        givesUp();
        steps();
        ranTold();
        ranByEnd();
        shownOfRuns();
        effortSpent();
        spentWhileMadeSmaller();
        spentOnPicked();
        told();
        end(18, 19, 20, 21, 22, 23, 24);
    }
}
