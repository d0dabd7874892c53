import java.util.ArrayList;
import java.util.List;
import java.util.Map;
import java.util.Random;
import java.util.TreeMap;

/** Runs of calls, each call's answer held against that of the Reference. */
public final class ReferenceTest {
    private static final int RUNS = 3000;

    private static int wrong = 0;
    // how often which answer came, so that it shows what these runs reach
    private static final Map<String, Integer> seen = new TreeMap<>();

    private Random random;
    private CaseTrials x;
    private Reference r;
    private final List<String> calls = new ArrayList<>();

    private void due(String call, long got, long want) {
        calls.add(call + " -> " + got);
        if (got != want && wrong < 20) {
            wrong++;
            int from = Math.max(0, calls.size() - 60);
            System.out.println(calls.subList(from, calls.size()) + ", due is " + want);
        }
    }

    private int within(int low, int high) {
        return low + random.nextInt(high - low + 1);
    }

    private int oneAmong(int... numbers) {
        return numbers[random.nextInt(numbers.length)];
    }

    /** Mostly a number of one that there is, mostly a late one. */
    private int place(int count) {
        if (random.nextInt(25) == 0) {
            return oneAmong(-1, count, count + 1, Integer.MIN_VALUE, Integer.MAX_VALUE);
        }
        return count == 0 ? 0 : Math.max(random.nextInt(count), random.nextInt(count));
    }

    private int from(int low, int high) {
        return random.nextInt(25) == 0 ? oneAmong(low - 1, high + 1, Integer.MIN_VALUE, Integer.MAX_VALUE)
                : within(low, high);
    }

    private long seed() {
        return random.nextInt(4) == 0 ? within(-3, 3) : random.nextLong();
    }

    private int number() {
        switch (random.nextInt(6)) {
            case 0:
                return oneAmong(0, 1, -1, 2, 7, Integer.MIN_VALUE, Integer.MAX_VALUE);
            case 1:
                return within(-1000000, 1000000);
            default:
                return within(-4, 30);
        }
    }

    private void buildMaker() {
        int m = place(r.makers.size());
        int o = place(r.makers.size());
        switch (random.nextInt(9)) {
            case 0:
                int low = oneAmong(0, -5, -1000000, 3, 126, within(-9, 9), within(-1000001, 1000001));
                int high = oneAmong(low, low + within(0, 12), low + within(-3, 400), 1000000, 0, -2);
                due("whole " + low + " " + high, x.whole(low, high), r.whole(low, high));
                break;
            case 1:
            case 2:
                int most = oneAmong(1, 2, 3, 6, from(1, 24), 24);
                due("listOf " + m + " " + most, x.listOf(m, most), r.listOf(m, most));
                break;
            case 3:
                due("pair " + m + " " + o, x.pair(m, o), r.pair(m, o));
                break;
            case 4:
                int p = from(1, 100);
                int q = from(1, 100);
                due("oneOf " + m + " " + p + " " + o + " " + q, x.oneOf(m, p, o, q), r.oneOf(m, p, o, q));
                break;
            case 5:
                int function = from(0, 4);
                due("mapped " + m + " " + function, x.mapped(m, function), r.mapped(m, function));
                break;
            case 6:
                int c = place(r.checks.size());
                due("picked " + m + " " + c, x.picked(m, c), r.picked(m, c));
                break;
            case 7:
                int n = oneAmong(1, 2, 4, from(1, 24));
                due("shuffled " + n, x.shuffled(n), r.shuffled(n));
                break;
            default:
                due("below " + m, x.below(m), r.below(m));
                break;
        }
    }

    private void buildCheck() {
        int kind = from(0, 11);
        int a = kind >= 8 && kind <= 10 ? place(r.checks.size()) : kind == 11 ? from(0, 2) : number();
        int b = kind == 8 || kind == 9 ? place(r.checks.size()) : kind == 11 ? from(0, 3) : number();
        due("check " + kind + " " + a + " " + b, x.check(kind, a, b), r.check(kind, a, b));
    }

    private void buildProperty() {
        int m = place(r.makers.size());
        int c = place(r.checks.size());
        if (random.nextInt(3) == 0) {
            int p = place(r.properties.size());
            due("label " + p + " " + c, x.label(p, c), r.label(p, c));
        } else {
            due("property " + m + " " + c, x.property(m, c), r.property(m, c));
        }
    }

    private void useCase() {
        switch (random.nextInt(12)) {
            case 0:
            case 1:
            case 2:
                int m = place(r.makers.size());
                long seed = seed();
                int size = from(0, 24);
                int made = r.make(m, seed, size);
                count("make", made);
                due("make " + m + " " + seed + " " + size, x.make(m, seed, size), made);
                break;
            case 3:
            case 4:
            case 5:
            case 6:
                int k = random.nextInt(2) == 0 ? 0 : from(0, 20);
                int less = r.smaller(k);
                count("smaller", less);
                due("smaller " + k, x.smaller(k), less);
                break;
            case 7:
                int s = oneAmong(0, 1, within(0, 40), within(-1, 60), Integer.MAX_VALUE, Integer.MIN_VALUE);
                due("sign " + s, x.sign(s), r.sign(s));
                break;
            case 8:
            case 9:
                int c = place(r.checks.size());
                due("holds " + c, x.holds(c), r.holds(c));
                break;
            case 10:
                int machine = from(0, 2);
                int fault = from(0, 3);
                int act = random.nextInt(3) == 0 ? from(0, 11) : within(0, 3);
                int what = from(0, 3);
                due("script " + machine + " " + fault + " " + act + " " + what,
                        x.script(machine, fault, act, what), r.script(machine, fault, act, what));
                break;
            default:
                long from = seed();
                int at = from(0, 1000);
                int n = oneAmong(0, -1, 1, 2, 1000, Integer.MAX_VALUE, number());
                due("draw " + from + " " + at + " " + n, x.draw(from, at, n), r.draw(from, at, n));
                break;
        }
        compareShown();
    }

    private void runProperty() {
        int p = place(r.properties.size());
        long seed = seed();
        int n = random.nextInt(2) == 0 ? within(1, 8) : from(1, 50);
        int size = from(0, 24);
        int end = r.run(p, seed, n, size);
        count(r.effort == 0 ? "spent run" : "run", end);
        due("run " + p + " " + seed + " " + n + " " + size, x.run(p, seed, n, size), end);
        for (int what = -1; what <= 8; what++) {
            due("ran " + what, x.ran(what), r.ran(what));
        }
        if (random.nextInt(2) == 0) {
            boolean first = random.nextBoolean();
            due("show " + first, x.show(first), r.show(first));
            compareShown();
        }
    }

    private static void count(String call, int answer) {
        seen.merge(call + " " + (call.endsWith("run") ? answer : Math.min(answer, 0)), 1, Integer::sum);
    }

    /** Not counted as calls: what they answer is free of what was called. */
    private void compareShown() {
        int signs = r.shown == null ? 0 : Reference.signs(r.shown.it()).size();
        for (int i = -1; i <= signs; i++) {
            if (x.sign(i) != r.sign(i)) {
                due("sign " + i, x.sign(i), r.sign(i));
            }
        }
        for (int c = 0; c < r.checks.size(); c += 1 + random.nextInt(12)) {
            if (x.holds(c) != r.holds(c)) {
                due("holds " + c, x.holds(c), r.holds(c));
            }
        }
        if (x.effort() != r.effort()) {
            due("effort", x.effort(), r.effort());
        }
        if (x.told(3) != r.told(3)) {
            due("told 3", x.told(3), r.told(3));
        }
    }

    private void play(int number) {
        random = new Random(number);
        x = new CaseTrials();
        r = new Reference();
        calls.clear();
        int turns = number % 3 == 0 ? 512 : 110;
        int wholes = within(1, 4);
        for (int i = 0; i < wholes; i++) {
            int low = within(-20, 20);
            int high = low + within(0, 40);
            due("whole " + low + " " + high, x.whole(low, high), r.whole(low, high));
        }
        for (int i = 0; i < turns; i++) {
            int turn = random.nextInt(100);
            if (turn < (i < 60 ? 35 : 4)) {
                buildMaker();
            } else if (turn < (i < 60 ? 60 : 8)) {
                buildCheck();
            } else if (turn < (i < 60 ? 70 : 12)) {
                buildProperty();
            } else if (turn < 15) {
                int what = within(-1, 4);
                due("told " + what, x.told(what), r.told(what));
            } else if (turn < 18) {
                int m = place(r.makers.size());
                int what = within(-1, 3);
                due("maker " + m + " " + what, x.maker(m, what), r.maker(m, what));
            } else if (turn < 20) {
                boolean first = random.nextBoolean();
                due("show " + first, x.show(first), r.show(first));
                compareShown();
            } else if (turn < (number % 2 == 0 ? 24 : 40)) {
                runProperty();
            } else {
                useCase();
            }
        }
    }

    public static void main(String[] args) {
        for (int i = 0; i < RUNS && wrong == 0; i++) {
            new ReferenceTest().play(i);
        }
        for (String answer : new String[] {"make -5", "make -6", "make 0", "smaller -6", "smaller -9", "smaller 0",
            "run 0", "run 1", "run 2", "spent run 1", "spent run 3"}) {
            if (!seen.containsKey(answer)) {
                wrong++;
                System.out.println("these runs never come to: " + answer);
            }
        }
        System.out.println(RUNS + " runs against the reference, wrong: " + wrong + "; " + seen);
        if (wrong != 0) {
            System.exit(1);
        }
    }
}
