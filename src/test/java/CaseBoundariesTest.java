import java.math.BigInteger;

/** The boundaries that the document names of cases that are made, made smaller and told: promises 12 to 14, 17. */
public final class CaseBoundariesTest extends Sentences {

    // ---- promise 12

    private static void makeRefused() {
        of(12, "how many SIGNS. UNKNOWN; OUTSIDE: size;");
        CaseTrials x = new CaseTrials();
        refused(x, "make(0, 0, 0), no maker", () -> x.make(0, 0, 0), UNKNOWN);
        refused(x, "make(0, 0, 25), no maker", () -> x.make(0, 0, 25), UNKNOWN);
        x.whole(0, 9);
        x.whole(3, 3);
        for (int size : new int[] {MIN, -1, 25, 26, MAX}) {
            refused(x, "make(0, 0, " + size + "), none shown", () -> x.make(0, 0, size), OUTSIDE);
        }
        due("make(0, 0, 0)", x.make(0, 0, 0), 2);
        due("make(0, 0, 1)", x.make(0, 0, 1), 2);
        due("make(0, 0, 23)", x.make(0, 0, 23), 2);
        due("make(0, 0, 24)", x.make(0, 0, 24), 2);
        due("make(1, 0, 24)", x.make(1, 0, 24), 2);
        dueCase("make(1, 0, 24)", x, "3");
        for (int maker : new int[] {MIN, -1, 2, 3, 30, MAX}) {
            refused(x, "make(" + maker + ", 0, 0)", () -> x.make(maker, 0, 0), UNKNOWN);
            refused(x, "make(" + maker + ", 0, 25)", () -> x.make(maker, 0, 25), UNKNOWN);
        }
        for (int size : new int[] {MIN, -1, 25, 26, MAX}) {
            refused(x, "make(0, 0, " + size + ")", () -> x.make(0, 0, size), OUTSIDE);
        }
    }

    private static void listsBySize() {
        of(12, "LIST: how many: THE NUMBER below 1 and the lesser one of most and SIZE; then each.");
        CaseTrials x = new CaseTrials();
        int digit = x.whole(0, 9);
        for (int most : new int[] {1, 5, 24}) {
            int list = x.listOf(digit, most);
            for (int size : new int[] {0, 1, 4, 5, 6, 23, 24}) {
                int bound = 1 + Math.min(most, size);
                for (int n : new int[] {0, bound / 2, bound - 1}) {
                    due("a list of most " + most + ", size " + size + ", number " + n,
                            x.make(list, seedOf(bound, n), size), 2 + 2 * n);
                }
                for (long seed = -20; seed < 20; seed++) {
                    x.make(list, seed, size);
                    due("a list of most " + most + ", size " + size + " of " + seed, x.sign(1),
                            x.draw(seed, 0, bound));
                }
            }
        }
        // with SIZE 0 a number is drawn all the same
        int pair = x.pair(x.listOf(digit, 3), digit);
        due("a row of none and a leaf", x.make(pair, 6, 0), 6);
        dueCase("a row of none and a leaf", x, "[[] " + x.draw(6, 1, 10) + "]");
        // the SIZE is that of lists in lists too
        int lists = x.listOf(x.listOf(digit, 4), 4);
        due("lists of lists", x.make(lists, seedOf(2, 1, 2, 1), 1), 6);
        due("lists of lists", x.make(lists, seedOf(4, 3, 4, 0, 4, 0, 4, 0), 3), 8);
    }

    private static void signsMade() {
        of(12, "SIGNS of a CASE: of a LEAF 0 and it; of a ROW 1 and how many CASES, then the SIGNS of these, in "
                + "order.");
        CaseTrials x = new CaseTrials();
        int one = x.whole(-5, -5);
        int none = x.listOf(one, 1);
        int all = x.shuffled(24);
        due("a leaf", x.make(one, 0, 0), 2);
        due("a row of none", x.make(none, 0, 0), 2);
        due("a row of one", x.make(none, seedOf(2, 1), 24), 4);
        dueCase("a row of one", x, "[-5]");
        due("a pair", x.make(x.pair(one, none), 0, 0), 6);
        dueCase("a pair", x, "[-5 []]");
        due("a row of 24", x.make(all, 0, 0), 50);
        of(12, "ITS LEAVES are in order of the rows.");
        CaseTrials y = new CaseTrials();
        int three = y.shuffled(3);
        y.make(y.pair(y.pair(three, y.whole(50, 50)), y.pair(y.whole(40, 40), three)), 0, 0);
        // 7 holds as long as no place told holds 50; the leaf 50 stands at place 3, and none of 0 to 2 tells of it
        due("leaves", y.told(3), 8);
        y.make(y.pair(y.whole(1, 1), y.pair(y.whole(2, 2), y.whole(0, 0))), 0, 0);
        due("the leaf at place 1 is 2", y.holds(y.check(7, 2, 0)), 0);
        due("it is an act of 1 and the number 2", y.script(0, 0, 0, 0) * 10 + y.script(0, 0, 0, 1), 12);
    }

    private static int chain(CaseTrials x, int maker, int levels) {
        int last = maker;
        for (int i = 0; i < levels; i++) {
            last = x.listOf(last, 1);
        }
        return last;
    }

    private static void madeOfSeeds() {
        of(12, "A CASE is MADE, THE DRAW being seed, and is the SHOWN one");
        CaseTrials x = new CaseTrials();
        int wide = x.whole(0, 1000000);
        int list = x.listOf(wide, 3);
        for (long seed : new long[] {0, 1, -1, MIN, MAX, Long.MIN_VALUE, Long.MAX_VALUE}) {
            x.make(wide, seed, 0);
            dueCase("a leaf of " + seed, x, "" + x.draw(seed, 0, 1000001));
            x.make(list, seed, 24);
            StringBuilder want = new StringBuilder("[");
            for (int i = 1; i <= x.draw(seed, 0, 4); i++) {
                want.append(i > 1 ? " " : "").append(x.draw(seed, i, 1000001));
            }
            dueCase("a list of " + seed, x, want + "]");
        }
        // the same seed makes the same case, whatever was made between
        x.make(list, 77, 24);
        String once = shown(x);
        x.make(wide, 3, 0);
        x.make(list, 77, 24);
        dueCase("made again", x, once);
    }

    private static void deepAndWide() {
        of(12, "A CASE is a LEAF (a whole number, an int), or a ROW of CASES (0 .. 24).");
        CaseTrials x = new CaseTrials();
        int deep = chain(x, x.whole(4, 4), 29);
        int[] numbers = new int[20];
        for (int rows = 0; rows < 10; rows++) {
            for (int i = 0; i < 10; i++) {
                numbers[2 * i] = 2;
                numbers[2 * i + 1] = i < rows ? 1 : 0;
            }
            long seed = seedOf(java.util.Arrays.copyOf(numbers, 2 * rows + 2));
            due("a row in " + rows + " rows", x.make(deep, seed, 24), 2 + 2 * rows);
        }
        CaseTrials y = new CaseTrials();
        int m = y.shuffled(1);
        for (int i = 1; i < 29; i++) {
            m = y.oneOf(m, 100, m, 1);
        }
        int widest = y.listOf(m, 24);
        due("the 30th maker", widest, 29);
        due("24 rows of one behind 28 choices", y.make(widest, seedOf(25, 24), 24), 2 + 24 * 4);
        due("its leaves", y.told(3), 24);
        due("its last sign", y.sign(97), 0);
        due("behind its last sign", y.sign(98), NO_SIGN);
        due("the last of its smaller ones, 21", y.smaller(20), 2 + 23 * 4);
        CaseTrials z = new CaseTrials();
        m = z.whole(1, 1);
        for (int i = 1; i < 24; i++) {
            m = z.below(m);
        }
        due("24 leaves of belows", z.make(m, 0, 0), 2 + 23 * 4);
        due("24 leaves of belows", z.told(3), 24);
        refused(z, "a 25th", () -> z.below(23), FULL);
    }

    private static void chains() {
        of(12, "WEIGHT (24 at most; else it is refused, FULL)");
        CaseTrials x = new CaseTrials();
        int m = x.whole(1, 1);
        for (int i = 1; i < 24; i++) {
            m = x.mapped(m, i % 2);
        }
        due("mapped 23 times", x.make(m, 0, 0), 2);
        dueCase("12 times twice it, 11 times its contrary", x, "-4096");
        refused(x, "mapped 24 times", () -> x.mapped(23, 0), FULL);
        CaseTrials y = new CaseTrials();
        m = y.whole(1, 1);
        for (int i = 1; i < 24; i++) {
            m = i % 2 == 0 ? y.pair(m, 0) : y.pair(0, m);
        }
        due("pairs in 22 pairs", y.make(m, 0, 0), 2 * 24 + 2 * 23);
        due("pairs in 22 pairs: leaves", y.told(3), 24);
        refused(y, "a 24th pair", () -> y.pair(23, 0), FULL);
        CaseTrials z = new CaseTrials();
        m = z.picked(z.whole(3, 3), z.check(2, 2, 0));
        for (int i = 2; i < 30; i++) {
            m = z.oneOf(m, 1, m, 100);
        }
        due("a picked one behind 28 choices", z.make(m, 4, 24), 2);
        due("a picked one behind 28 choices: effort", z.effort(), 1499);
        due("a run of it", z.run(z.property(m, 0), 4, 1, 24), 0);
        due("a run of it: effort", z.effort(), 1497);
    }

    private static void makeGivesUp() {
        of(12, "-5 it GIVES UP, -6 SPENT (the SHOWN one stays).");
        CaseTrials x = new CaseTrials();
        int digit = x.whole(0, 9);
        int zero = x.check(0, 1, 0);
        int picked = x.picked(digit, zero);
        int holding = x.property(digit, x.check(2, 25, 0));
        long eighth = seedOfFirst(10, 0, 7);
        long ninth = seedOfFirst(10, 0, 8);
        due("gives up, none shown", x.make(picked, ninth, 0), GIVES_UP);
        due("none is shown still", x.told(3), NONE);
        due("made at the eighth", x.make(picked, eighth, 0), 2);
        x.make(x.whole(77, 77), 0, 0);
        due("gives up", x.make(picked, ninth, 0), GIVES_UP);
        dueCase("gives up", x, "77");
        spend(x, holding, 8 + 8);
        due("gives up with 16 left", x.make(picked, ninth, 0), GIVES_UP);
        due("made with 8 left", x.make(picked, eighth, 0), 2);
        due("effort", x.effort(), 0);
        dueCase("made with 8 left", x, "0");
        due("spent with none left", x.make(picked, eighth, 0), SPENT);
        due("spent with none left", x.make(picked, seedOf(10, 0), 0), SPENT);
        dueCase("spent", x, "0");
        for (int left = 7; left <= 8; left++) {
            CaseTrials y = new CaseTrials();
            digit = y.whole(0, 9);
            picked = y.picked(digit, y.check(0, 1, 0));
            holding = y.property(digit, y.check(2, 25, 0));
            spend(y, holding, left);
            due("none of 8 fits, " + left + " left", y.make(picked, ninth, 0), left < 8 ? SPENT : GIVES_UP);
            due("none of 8 fits: effort", y.effort(), 0);
            due("none of 8 fits: none shown", y.told(3), NONE);
        }
    }

    // ---- promise 13

    private static void smallerRefused() {
        of(13, "OUTSIDE: k is not 0 to 20; NONE: it has no such, there is none SHOWN;");
        CaseTrials x = new CaseTrials();
        int[] outside = {MIN, -1, 21, 22, MAX};
        for (int k : outside) {
            refused(x, "smaller(" + k + "), none shown", () -> x.smaller(k), OUTSIDE);
        }
        refused(x, "smaller(0), none shown", () -> x.smaller(0), NONE);
        refused(x, "smaller(20), none shown", () -> x.smaller(20), NONE);
        // 1000000 has 20 smaller ones, with 1 beside it 21, with 2 or 3 beside it 22
        int million = x.whole(0, 1000000);
        int[] makers = {million, x.pair(million, x.whole(0, 1)), x.pair(million, x.whole(0, 3))};
        long[] seeds = {seedOf(1000001, 1000000), seedOf(1000001, 1000000, 2, 1), seedOf(1000001, 1000000, 4, 2)};
        for (int i = 0; i < 3; i++) {
            int its = i;
            int signs = i == 0 ? 2 : 6;
            for (int k = 0; k <= 20; k++) {
                x.make(makers[i], seeds[i], 24);
                int asked = k;
                if (k < 20 + i) {
                    due(20 + i + " smaller ones: smaller(" + k + ")", x.smaller(k), signs);
                } else {
                    refused(x, "20 smaller ones: smaller(" + k + ")", () -> x.smaller(asked), NONE);
                }
            }
            for (int k : outside) {
                refused(x, 20 + i + " smaller ones: smaller(" + k + ")", () -> x.smaller(k), OUTSIDE);
            }
            due("made again", x.make(makers[its], seeds[its], 24), signs);
        }
        dueCase("made again", x, "[1000000 2]");
        x.smaller(20);
        dueCase("the 21st", x, "[1000000 0]");
        x.make(makers[1], seeds[1], 24);
        x.smaller(20);
        dueCase("the 21st", x, "[1000000 0]");
        x.make(makers[1], seeds[1], 24);
        x.smaller(19);
        dueCase("the 20th", x, "[999999 1]");
        // of one that has none, and of one that came to have none
        x.make(x.whole(5, 5), 0, 0);
        refused(x, "smaller(0) of 5 to 5", () -> x.smaller(0), NONE);
        x.make(x.pair(million, million), 0, 24);
        for (int i = 0; i < 2; i++) {
            due("to 0", x.smaller(0), 6);
        }
        dueCase("both to 0", x, "[0 0]");
        refused(x, "smaller(0) of [0 0]", () -> x.smaller(0), NONE);
    }

    private static void smallerWholes() {
        of(13, "T is 0, if that is from low to high, else low or high, whichever is nearer to 0");
        int[][] bounds = {{-1, 9}, {0, 9}, {1, 9}, {2, 9}, {-9, 1}, {-9, 0}, {-9, -1}, {-9, -2}, {-9, 9}, {0, 1},
            {-1, 0}, {0, 0}, {3, 3}, {-3, -3}};
        for (int[] b : bounds) {
            CaseTrials x = new CaseTrials();
            int m = x.whole(b[0], b[1]);
            int goal = b[0] > 0 ? b[0] : b[1] < 0 ? b[1] : 0;
            for (int v = b[0]; v <= b[1]; v++) {
                StringBuilder want = new StringBuilder();
                for (int d = v - goal; d != 0; d /= 2) {
                    want.append(want.length() > 0 ? " " : "").append(v - d);
                }
                same("smaller than " + v + " from " + b[0] + " to " + b[1],
                        smallerOnes(x, m, seedOf(b[1] - b[0] + 1, v - b[0])), want.toString());
            }
        }
        of(13, "T, v less d by 2, v less d by 4, .. (each cut towards 0), as long as that is not v; none, if d is 0.");
        int[] values = {-8, -7, -5, -4, -3, -2, -1, 0, 1, 2, 3, 4, 5, 7, 8, 100, -100};
        String[] want = {"0 -4 -6 -7", "0 -4 -6", "0 -3 -4", "0 -2 -3", "0 -2", "0 -1", "0", "", "0", "0 1", "0 2",
            "0 2 3", "0 3 4", "0 4 6", "0 4 6 7", "0 50 75 88 94 97 99", "0 -50 -75 -88 -94 -97 -99"};
        CaseTrials x = new CaseTrials();
        int m = x.whole(-100, 100);
        for (int i = 0; i < values.length; i++) {
            same("smaller than " + values[i], smallerOnes(x, m, seedOf(201, values[i] + 100)), want[i]);
        }
        m = x.whole(3, 20);
        same("smaller than 3 from 3 on", smallerOnes(x, m, seedOf(18, 0)), "");
        same("smaller than 4 from 3 on", smallerOnes(x, m, seedOf(18, 1)), "3");
        same("smaller than 6 from 3 on", smallerOnes(x, m, seedOf(18, 3)), "3 5");
        same("smaller than 20 from 3 on", smallerOnes(x, m, seedOf(18, 17)), "3 12 16 18 19");
        m = x.whole(-20, -3);
        same("smaller than -20 up to -3", smallerOnes(x, m, seedOf(18, 0)), "-3 -12 -16 -18 -19");
        // a smaller one has its own smaller ones, from the same low to the same high
        x.make(m, seedOf(18, 0), 0);
        x.smaller(1);
        x.smaller(1);
        dueCase("the second of -12", x, "-8");
    }

    private static void smallerLists() {
        of(13, "LIST of n: for c = n, n by 2, n by 4, .. (cut), above 0: without the first c, without the next c, .. "
                + "(as many as there are full c's)");
        CaseTrials x = new CaseTrials();
        // leaves 1 to 8 that have no smaller ones themselves
        int[] m = new int[15];
        for (int i = 0; i < 8; i++) {
            m[i] = x.whole(i + 1, i + 1);
        }
        for (int i = 8; i < 15; i++) {
            m[i] = x.oneOf(m[2 * (i - 8)], 1, m[2 * (i - 8) + 1], 1);
        }
        String[] want = {"", "[]", "[] [2] [1]", "[] [2 3] [1 3] [1 2]",
            "[] [3 4] [1 2] [2 3 4] [1 3 4] [1 2 4] [1 2 3]",
            "[] [3 4 5] [1 2 5] [2 3 4 5] [1 3 4 5] [1 2 4 5] [1 2 3 5] [1 2 3 4]",
            "[] [4 5 6] [1 2 3] [2 3 4 5 6] [1 3 4 5 6] [1 2 4 5 6] [1 2 3 5 6] [1 2 3 4 6] [1 2 3 4 5]"};
        for (int n = 0; n <= 6; n++) {
            int list = x.listOf(m[14], n == 0 ? 1 : n);
            int[] numbers = new int[2 + 8 * n];
            numbers[0] = n == 0 ? 2 : n + 1;
            numbers[1] = n;
            for (int i = 0; i < n; i++) {
                int[] one = {2, i >> 2 & 1, 2, i >> 1 & 1, 2, i & 1, 1, 0};
                System.arraycopy(one, 0, numbers, 2 + 8 * i, 8);
            }
            same("smaller lists of " + n, smallerOnes(x, list, seedOf(numbers)), want[n]);
        }
        of(13, "then for each place in order, with each SMALLER CASE of what is there.");
        CaseTrials y = new CaseTrials();
        int list = y.listOf(y.whole(0, 3), 2);
        same("smaller of [3 2]", smallerOnes(y, list, seedThatShows(y, list, "[3 2]")),
                "[] [2] [3] [0 2] [2 2] [3 0] [3 1]");
        same("smaller of [0 1]", smallerOnes(y, list, seedThatShows(y, list, "[0 1]")), "[] [1] [0] [0 0]");
        same("smaller of [3]", smallerOnes(y, list, seedThatShows(y, list, "[3]")), "[] [0] [2]");
        same("smaller of [0]", smallerOnes(y, list, seedThatShows(y, list, "[0]")), "[]");
        int lists = y.listOf(list, 2);
        same("smaller of [[] [1 0]]", smallerOnes(y, lists, seedThatShows(y, lists, "[[] [1 0]]")),
                "[] [[1 0]] [[]] [[] []] [[] [0]] [[] [1]] [[] [0 0]]");
    }

    private static void smallerOfTwo() {
        of(13, "PAIR, BELOW: with each SMALLER one of the first, then of the second");
        CaseTrials x = new CaseTrials();
        int three = x.whole(0, 3);
        int pair = x.pair(three, three);
        same("smaller of [3 2]", smallerOnes(x, pair, seedOf(4, 3, 4, 2)), "[0 2] [2 2] [3 0] [3 1]");
        same("smaller of [0 2]", smallerOnes(x, pair, seedOf(4, 0, 4, 2)), "[0 0] [0 1]");
        same("smaller of [1 0]", smallerOnes(x, pair, seedOf(4, 1, 4, 0)), "[0 0]");
        same("smaller of [0 0]", smallerOnes(x, pair, seedOf(4, 0, 4, 0)), "");
        of(13, "(of BELOW, the second by WHOLE with low 0 and v as high; where the first becomes smaller, the second "
                + "becomes 0, if it is above the greater one of 0 and the sum of that one's LEAVES).");
        int below = x.below(x.whole(0, 9));
        String[] made = {"[8 3]", "[8 4]", "[8 5]", "[8 8]", "[8 0]", "[1 1]", "[1 0]", "[0 0]"};
        String[] want = {"[0 0] [4 3] [6 3] [7 3] [8 0] [8 2]", "[0 0] [4 4] [6 4] [7 4] [8 0] [8 2] [8 3]",
            "[0 0] [4 0] [6 5] [7 5] [8 0] [8 3] [8 4]", "[0 0] [4 0] [6 0] [7 0] [8 0] [8 4] [8 6] [8 7]",
            "[0 0] [4 0] [6 0] [7 0]", "[0 0] [1 0]", "[0 0]", ""};
        for (int i = 0; i < made.length; i++) {
            same("smaller of " + made[i], smallerOnes(x, below, seedThatShows(x, below, made[i])), want[i]);
        }
        // the sum of the first may go below 0, or grow, when the first becomes smaller
        int minus = x.below(x.pair(x.whole(0, 4), x.mapped(x.whole(0, 2), 0)));
        same("smaller of [[4 -2] 1]", smallerOnes(x, minus, seedThatShows(x, minus, "[[4 -2] 1]")),
                "[[0 -2] 0] [[2 -2] 0] [[3 -2] 1] [[4 0] 1] [[4 -1] 1] [[4 -2] 0]");
        same("smaller of [[4 -2] 2]", smallerOnes(x, minus, seedThatShows(x, minus, "[[4 -2] 2]")),
                "[[0 -2] 0] [[2 -2] 0] [[3 -2] 0] [[4 0] 2] [[4 -1] 2] [[4 -2] 0] [[4 -2] 1]");
        same("smaller of [[0 -2] 0]", smallerOnes(x, minus, seedThatShows(x, minus, "[[0 -2] 0]")),
                "[[0 0] 0] [[0 -1] 0]");
        // one below of another: the inner second goes to 0 first, then the outer one by the sum that is left
        int twice = x.below(below);
        same("smaller of [[4 3] 5]", smallerOnes(x, twice, seedThatShows(x, twice, "[[4 3] 5]")),
                "[[0 0] 0] [[2 0] 0] [[3 3] 5] [[4 0] 0] [[4 2] 5] [[4 3] 0] [[4 3] 3] [[4 3] 4]");
        // mapped as a whole: its second is mapped, but smaller towards 0 as it was made
        int mapped = x.mapped(below, 0);
        same("smaller of [-4 -2]", smallerOnes(x, mapped, seedThatShows(x, mapped, "[-4 -2]")),
                "[0 0] [-2 -2] [-3 -2] [-4 0] [-4 -1]");
        // -1 goes to 0, and the sum goes round from the greatest int to the least
        CaseTrials y = new CaseTrials();
        int greatest = y.pair(y.mapped(y.whole(46340, 46340), 2), y.whole(88048, 88048));
        int round = y.below(y.pair(greatest, y.whole(-1, 0)));
        same("smaller of the greatest sum", smallerOnes(y, round, seedOf(1, 0, 1, 0, 2, 0, 1000001, 7)),
                "[[[2147395600 88048] 0] 0] [[[2147395600 88048] -1] 0] [[[2147395600 88048] -1] 4] "
                + "[[[2147395600 88048] -1] 6]");
    }

    private static void smallerAgain() {
        of(13, "The SHOWN CASE becomes its k-th SMALLER one (from 0 on): how many SIGNS.");
        CaseTrials x = new CaseTrials();
        int below = x.below(x.mapped(x.whole(1, 3), 1));
        int list = x.listOf(x.pair(below, x.shuffled(2)), 4);
        x.make(list, seedThatShows(x, list, "[[[2 0] [1 0]] [[6 5] [0 1]] [[4 1] [1 0]]]"), 24);
        due("without the first", x.smaller(1), 30);
        dueCase("without the first", x, "[[[6 5] [0 1]] [[4 1] [1 0]]]");
        due("its first to 1, and 5 to 0", x.smaller(3), 30);
        dueCase("its first to 1, and 5 to 0", x, "[[[2 0] [0 1]] [[4 1] [1 0]]]");
        due("what is in order and what is least has none", x.smaller(3), 30);
        dueCase("what is in order and what is least has none", x, "[[[2 0] [0 1]] [[2 1] [1 0]]]");
        due("without the first", x.smaller(1), 16);
        dueCase("without the first", x, "[[[2 1] [1 0]]]");
        due("1 to 0", x.smaller(1), 16);
        dueCase("1 to 0", x, "[[[2 0] [1 0]]]");
        due("in order", x.smaller(1), 16);
        dueCase("in order", x, "[[[2 0] [0 1]]]");
        due("without all", x.smaller(0), 2);
        dueCase("without all", x, "[]");
        refused(x, "none is smaller", () -> x.smaller(0), NONE);
        // what stands behind those left out is made smaller as it was made
        CaseTrials y = new CaseTrials();
        int belows = y.listOf(y.below(y.mapped(y.whole(0, 3), 1)), 4);
        y.make(belows, seedThatShows(y, belows, "[[2 0] [6 5] [4 1]]"), 24);
        y.smaller(1);
        y.smaller(3);
        dueCase("without the first, the second's 3 to 0", y, "[[0 0] [4 1]]");
        y.smaller(4);
        dueCase("the third's 2 to 1", y, "[[0 0] [2 1]]");
        CaseTrials z = new CaseTrials();
        int mixed = z.listOf(z.oneOf(z.whole(0, 9), 1, z.whole(5, 9), 1), 2);
        // 7 of 0 to 9, and 9 of 5 to 9
        z.make(mixed, seedOf(3, 2, 2, 0, 10, 7, 2, 1, 5, 4), 24);
        z.smaller(1);
        dueCase("without 7", z, "[9]");
        z.smaller(1);
        dueCase("9 to 5", z, "[5]");
        z.make(mixed, seedOf(3, 2, 2, 1, 5, 4, 2, 0, 10, 7), 24);
        z.smaller(1);
        dueCase("without 9", z, "[7]");
        z.smaller(1);
        dueCase("7 to 0", z, "[0]");
    }

    private static void smallerAfterOthers() {
        of(13, "SMALLER CASES of a CASE as it was made, in order");
        CaseTrials x = new CaseTrials();
        int four = x.shuffled(4);
        int two = x.shuffled(2);
        int from5 = x.whole(5, 9);
        int pair = x.pair(from5, from5);
        int below = x.below(x.whole(0, 9));
        long eight = seedThatShows(x, below, "[8 5]");
        same("of [3 2 0 1]", smallerOnes(x, four, seedThatShows(x, four, "[3 2 0 1]")), "[2 3 0 1] [3 0 2 1]");
        same("of [0 1] behind it", smallerOnes(x, two, seedOf(2, 1)), "");
        same("of [9 9]", smallerOnes(x, pair, seedOf(5, 4, 5, 4)), "[5 9] [7 9] [8 9] [9 5] [9 7] [9 8]");
        same("of [8 5] behind it", smallerOnes(x, below, eight), "[0 0] [4 0] [6 5] [7 5] [8 0] [8 3] [8 4]");
        same("of [9 9] again", smallerOnes(x, pair, seedOf(5, 4, 5, 4)), "[5 9] [7 9] [8 9] [9 5] [9 7] [9 8]");
        same("of 5 behind it", smallerOnes(x, from5, seedOf(5, 0)), "");
    }

    private static void smallerOthers() {
        of(13, "ONE OF: those of what it was made from.");
        CaseTrials x = new CaseTrials();
        int low = x.whole(0, 9);
        int high = x.whole(5, 9);
        int either = x.oneOf(low, 1, high, 1);
        same("smaller 8 of 0 to 9", smallerOnes(x, either, seedOf(2, 0, 10, 8)), "0 4 6 7");
        same("smaller 8 of 5 to 9", smallerOnes(x, either, seedOf(2, 1, 5, 3)), "5 7");
        same("smaller 5 of 5 to 9", smallerOnes(x, either, seedOf(2, 1, 5, 0)), "");
        of(13, "MAPPED: those of what was mapped, mapped.");
        same("twice 6", smallerOnes(x, x.mapped(low, 1), seedOf(10, 6)), "0 6 10");
        same("the remainder of 8", smallerOnes(x, x.mapped(low, 3), seedOf(10, 8)), "0 4 6 0");
        same("the contrary of 5 from 5 on", smallerOnes(x, x.mapped(high, 0), seedOf(5, 0)), "");
        int list = x.listOf(low, 2);
        int sorted = x.mapped(list, 4);
        // made as 3 and 1: without the first 3 it is 1, with a smaller 3 it is 0 and 1
        same("3 and 1 in order", smallerOnes(x, sorted, seedOf(3, 2, 10, 3, 10, 1)),
                "[] [1] [3] [0 1] [1 2] [0 3]");
        of(13, "SHUFFLED: for each place i in order at which the LEAF is above the next one, these two exchanged.");
        int one = x.shuffled(1);
        int two = x.shuffled(2);
        int four = x.shuffled(4);
        same("smaller of [0]", smallerOnes(x, one, 0), "");
        same("smaller of [0 1]", smallerOnes(x, two, seedOf(2, 1)), "");
        same("smaller of [1 0]", smallerOnes(x, two, seedOf(2, 0)), "[0 1]");
        String[] made = {"[0 1 2 3]", "[1 0 2 3]", "[0 2 1 3]", "[0 1 3 2]", "[3 2 1 0]", "[1 2 3 0]", "[2 0 3 1]"};
        String[] want = {"", "[0 1 2 3]", "[0 1 2 3]", "[0 1 2 3]", "[2 3 1 0] [3 1 2 0] [3 2 0 1]", "[1 2 0 3]",
            "[0 2 3 1] [2 0 1 3]"};
        for (int i = 0; i < made.length; i++) {
            same("smaller of " + made[i], smallerOnes(x, four, seedThatShows(x, four, made[i])), want[i]);
        }
        int pairs = x.pair(two, two);
        same("the last of one row is not above the first of the next", smallerOnes(x, pairs, seedOf(2, 1, 2, 1)), "");
        same("one row, then the next", smallerOnes(x, pairs, seedOf(2, 0, 2, 0)), "[[0 1] [1 0]] [[1 0] [0 1]]");
    }

    private static void smallerPicked() {
        of(13, "PICKED: those that fit (the CHECK does not throw), each asked just when it is come to.");
        CaseTrials x = new CaseTrials();
        int digit = x.whole(0, 9);
        int even = x.picked(digit, x.check(5, 2, 0));
        long eight = seedOf(10, 8);
        // 8: 0 and 4 and 6 fit, 7 does not
        int[] asked = {1, 2, 3, 4};
        for (int k = 0; k < 4; k++) {
            x.make(even, eight, 0);
            int left = x.effort();
            due("even, smaller(" + k + ")", x.smaller(k), k < 3 ? 2 : NONE);
            due("even, smaller(" + k + "): asked", x.effort(), left - asked[k]);
            dueCase("even, smaller(" + k + ")", x, new String[] {"0", "4", "6", "8"}[k]);
        }
        // what does not fit is asked on the way: of 7, 0 and 4 and 6 are, and of them only 4 is below 5 and above 0
        int middle = x.check(8, x.check(1, 1, 0), x.check(10, x.check(5, 6, 0), 0));
        int picked = x.picked(digit, middle);
        same("1 and more, not by 6", smallerOnes(x, picked, seedOf(10, 7)), "4");
        x.make(picked, seedOf(10, 7), 0);
        int left = x.effort();
        due("1 and more, not by 6", x.smaller(0), 2);
        due("1 and more, not by 6: asked", x.effort(), left - 2);
        // 3 throws, so it does not fit
        int throwing = x.picked(digit, x.check(6, 3, 0));
        same("smaller than 6 but 3", smallerOnes(x, throwing, seedOf(10, 6)), "0 5");
        same("smaller than 5 but 3", smallerOnes(x, throwing, seedOf(10, 5)), "0 4");
        // only what stands in the picked one is asked
        int pair = x.pair(digit, even);
        x.make(pair, seedOf(10, 2, 10, 4), 0);
        left = x.effort();
        due("the first is not picked", x.smaller(1), 6);
        due("the first is not picked: none asked", x.effort(), left);
        dueCase("the first is not picked", x, "[1 4]");
        due("the second is", x.smaller(2), 6);
        due("the second is: 0 and 2 asked", x.effort(), left - 2);
        dueCase("the second is", x, "[1 2]");
    }

    private static void smallerSpent() {
        of(13, "-6 SPENT (all stays but EFFORT).");
        for (int left = 0; left <= 5; left++) {
            for (int k = 0; k <= 4; k++) {
                CaseTrials x = new CaseTrials();
                int digit = x.whole(0, 9);
                int even = x.picked(digit, x.check(5, 2, 0));
                int holding = x.property(digit, x.check(2, 25, 0));
                x.make(even, seedOf(10, 8), 0);
                spend(x, holding, left);
                // the first, second and third one fit; the fourth does not, and there are no more
                int asked = Math.min(k + 1, 4);
                String call = "smaller(" + k + ") with " + left + " left";
                due(call, x.smaller(k), left < asked ? SPENT : k < 3 ? 2 : NONE);
                due(call + ": effort", x.effort(), Math.max(0, left - asked));
                dueCase(call, x, left < asked || k >= 3 ? "8" : new String[] {"0", "4", "6"}[k]);
            }
        }
        CaseTrials x = new CaseTrials();
        int digit = x.whole(0, 9);
        int pair = x.pair(digit, x.picked(digit, x.check(5, 2, 0)));
        int holding = x.property(digit, x.check(2, 25, 0));
        x.make(pair, seedOf(10, 1, 10, 2), 0);
        spend(x, holding, 0);
        refused(x, "the picked one", () -> x.smaller(1), SPENT);
        due("the one that is not", x.smaller(0), 6);
        dueCase("the one that is not", x, "[0 2]");
    }

    // ---- promise 14

    private static void signs() {
        of(14, "SIGN i of the SHOWN CASE (of a LEAF 0, then it; of a ROW 1, then how many). Long.MIN_VALUE: there is "
                + "none.");
        CaseTrials x = new CaseTrials();
        int[] places = {MIN, MIN + 1, -2, -1, 0, 1, 2, 3, MAX - 1, MAX};
        for (int i : places) {
            due("sign(" + i + "), none shown", x.sign(i), NO_SIGN);
        }
        int leaf = x.whole(-7, -7);
        int list = x.listOf(leaf, 1);
        x.make(leaf, 0, 0);
        dueSigns(x, places, 0, -7);
        x.make(list, 0, 0);
        dueSigns(x, places, 1, 0);
        x.make(x.pair(leaf, list), 0, 0);
        dueSigns(x, places, 1, 2, 0, -7, 1, 0);
        x.make(x.pair(list, leaf), 0, 0);
        dueSigns(x, places, 1, 2, 1, 0, 0, -7);
        int all = x.shuffled(24);
        due("24", x.make(all, 0, 0), 50);
        due("the last leaf of 24", x.sign(48), 0);
        due("behind the last of 24", x.sign(50), NO_SIGN);
        // a leaf that is the least int
        x.make(x.mapped(x.mapped(x.whole(32768, 32768), 2), 1), 0, 0);
        dueSigns(x, places, 0, MIN);
    }

    private static void dueSigns(CaseTrials x, int[] places, long... want) {
        for (int i : places) {
            due("sign(" + i + ") of " + want.length, x.sign(i), i >= 0 && i < want.length ? want[i] : NO_SIGN);
        }
        for (int i = 0; i < want.length + 3; i++) {
            due("sign(" + i + ") of " + want.length, x.sign(i), i < want.length ? want[i] : NO_SIGN);
        }
    }

    // ---- promise 17

    private static void drawBounds() {
        of(17, "OUTSIDE: n is below 1, k is not 0 to 1000.");
        CaseTrials x = new CaseTrials();
        for (int n : new int[] {MIN, -1, 0}) {
            refused(x, "draw(0, 0, " + n + ")", () -> x.draw(0, 0, n), OUTSIDE);
            refused(x, "draw(0, 1000, " + n + ")", () -> x.draw(0, 1000, n), OUTSIDE);
        }
        for (int k : new int[] {MIN, -1, 1001, 1002, MAX}) {
            refused(x, "draw(0, " + k + ", 1)", () -> x.draw(0, k, 1), OUTSIDE);
            refused(x, "draw(0, " + k + ", 0)", () -> x.draw(0, k, 0), OUTSIDE);
        }
        due("draw(0, 0, 1)", x.draw(0, 0, 1), 0);
        due("draw(-1, 1000, 1)", x.draw(-1, 1000, 1), 0);
    }

    private static void numberOfPlace() {
        of(17, "THE NUMBER below n that is the k-th (from 0 on) drawn from a seed.");
        CaseTrials x = new CaseTrials();
        int wide = x.whole(0, 999);
        int list = x.listOf(wide, 24);
        long seed = seedOf(25, 24);
        x.make(list, seed, 24);
        for (int k = 0; k <= 24; k++) {
            due("the number " + k, x.draw(seed, k, k == 0 ? 25 : 1000), k == 0 ? 24 : x.sign(1 + 2 * k));
        }
        // from the state that the first number leaves, the second is the first one
        long next = seed * 6364136223846793005L + 1442695040888963407L;
        for (int k = 0; k < 1000; k += 333) {
            due("the number " + (k + 1), x.draw(seed, k + 1, MAX), x.draw(next, k, MAX));
        }
    }

    private static void numbersDrawn() {
        of(17, "THE DRAW: a long; each time it becomes itself times 6364136223846793005 and 1442695040888963407 (going "
                + "round); THE NUMBER below n (1 .. 2^31 - 1) is its upper 32 bits (without sign) times n by 2^32, "
                + "cut.");
        CaseTrials x = new CaseTrials();
        BigInteger round = BigInteger.ONE.shiftLeft(64);
        for (long seed : new long[] {0, 1, -1, 2, Long.MIN_VALUE, Long.MAX_VALUE, 1L << 32, 123456789012345L}) {
            BigInteger drawn = BigInteger.valueOf(seed);
            for (int k = 0; k <= 1000; k++) {
                drawn = drawn.multiply(BigInteger.valueOf(6364136223846793005L))
                        .add(BigInteger.valueOf(1442695040888963407L)).mod(round);
                if (k <= 2 || k >= 999) {
                    for (int n : new int[] {1, 2, 3, 1000, 1 << 30, MAX - 1, MAX}) {
                        due("draw(" + seed + ", " + k + ", " + n + ")", x.draw(seed, k, n), drawn.shiftRight(32)
                                .multiply(BigInteger.valueOf(n)).shiftRight(32).intValueExact());
                    }
                }
            }
        }
    }

    public static void main(String[] args) {
        makeRefused();
        listsBySize();
        signsMade();
        madeOfSeeds();
        deepAndWide();
        chains();
        makeGivesUp();
        smallerRefused();
        smallerWholes();
        smallerLists();
        smallerOfTwo();
        smallerAgain();
        smallerAfterOthers();
        smallerOthers();
        smallerPicked();
        smallerSpent();
        signs();
        drawBounds();
        numberOfPlace();
        numbersDrawn();
        end(12, 13, 14, 17);
    }
}
