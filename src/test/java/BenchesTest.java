import java.util.Arrays;
import java.util.Random;

/**
 * What the document says of an object as a whole: it is used for up to 512 calls, all by the calls made on it.
 * So the same calls answer the same again, and benches that are used side by side do not meet.
 */
public final class BenchesTest {
    private static final int CALLS = 512;
    private static final int BENCHES = 60;

    private static int asked = 0;
    private static int wrong = 0;

    /** A bench and the calls on it, which are drawn ahead of what they answer. */
    private static final class Player {
        private final CaseTrials x = new CaseTrials();
        private final Random random;
        private final long[] answers = new long[CALLS];
        private int calls = 0;

        private Player(int seed) {
            random = new Random(seed);
        }

        private int to(int high) {
            return random.nextInt(high + 1);
        }

        /** Mostly a small number, at times one that is far off. */
        private int any() {
            return to(9) == 0 ? random.nextInt() : to(30) - 6;
        }

        private void call() {
            answers[calls] = calls < 3 ? first() : to(9) < (calls < 90 ? 6 : 1) ? build() : use();
            calls++;
        }

        private long first() {
            return calls == 0 ? x.whole(-to(20), to(40)) : calls == 1 ? x.listOf(0, 1 + to(5)) : x.check(0, to(40), 0);
        }

        private long build() {
            int m = to(Math.min(29, calls / 4));
            switch (to(11)) {
                case 0:
                    return x.whole(any(), any());
                case 1:
                    return x.listOf(m, to(6));
                case 2:
                    return x.pair(m, to(5));
                case 3:
                    return x.oneOf(m, to(100), to(5), to(100));
                case 4:
                    return x.mapped(m, to(5));
                case 5:
                    return x.picked(m, to(9));
                case 6:
                    return x.shuffled(to(9));
                case 7:
                    return x.below(m);
                case 8:
                    return x.property(m, to(9));
                case 9:
                    return x.label(to(4), to(9));
                default:
                    return x.check(to(12), to(4), to(4));
            }
        }

        private long use() {
            switch (to(11)) {
                case 0:
                case 1:
                    return x.make(to(12), random.nextLong(), to(25));
                case 2:
                case 3:
                    return x.smaller(to(3));
                case 4:
                    return x.sign(to(12));
                case 5:
                    return x.holds(to(15));
                case 6:
                    return x.script(to(3), to(4), to(3), to(4));
                case 7:
                    return x.run(to(6), random.nextLong(), 1 + to(9), to(24));
                case 8:
                    return x.ran(to(8));
                case 9:
                    return x.show(random.nextBoolean());
                case 10:
                    return to(1) == 0 ? x.effort() : x.told(to(4));
                default:
                    return to(1) == 0 ? x.draw(random.nextLong(), to(1000), any()) : x.maker(to(12), to(3));
            }
        }
    }

    private static long[] alone(int seed) {
        Player player = new Player(seed);
        for (int i = 0; i < CALLS; i++) {
            player.call();
        }
        return player.answers;
    }

    private static void same(String what, long[] got, long[] want) {
        asked += CALLS;
        int at = Arrays.mismatch(got, want);
        if (at >= 0) {
            wrong++;
            System.out.println(what + ": call " + at + " answered " + got[at] + ", due is " + want[at]);
        }
    }

    /** All benches live at once and take turns, now a few calls, now one. */
    private static void sideBySide(long[][] want) {
        Player[] players = new Player[BENCHES];
        for (int i = 0; i < BENCHES; i++) {
            players[i] = new Player(i);
        }
        Random turns = new Random(1);
        for (int left = BENCHES * CALLS; left > 0;) {
            Player player = players[turns.nextInt(BENCHES)];
            for (int i = turns.nextInt(4); i >= 0 && player.calls < CALLS; i--) {
                player.call();
                left--;
            }
        }
        for (int i = 0; i < BENCHES; i++) {
            same("bench " + i + " beside others", players[i].answers, want[i]);
        }
    }

    /** Reading what is there, as often as one likes, is a call without a trace. */
    private static void readBetween(int seed, long[] want) {
        Player player = new Player(seed);
        CaseTrials x = player.x;
        for (int i = 0; i < CALLS; i++) {
            player.call();
            x.effort();
            x.told(i % 5);
            x.ran(i % 9);
            x.sign(i % 20);
            x.holds(i % 10);
            x.script(i % 3, i % 4, i % 5, i % 4);
            x.draw(i, i % 50, i);
            x.maker(i % 12, i % 4);
        }
        same("bench " + seed + " with reading between", player.answers, want);
    }

    public static void main(String[] args) {
        long[][] want = new long[BENCHES][];
        boolean[] answered = new boolean[16];
        for (int i = 0; i < BENCHES; i++) {
            want[i] = alone(i);
            for (long answer : want[i]) {
                answered[(int) Math.max(0, Math.min(15, answer + 10))] = true;
            }
        }
        for (int answer : new int[] {-1, -2, -3, -4, -5, -9, 0, 1, 2, 3, 4}) {
            if (!answered[answer + 10]) {
                wrong++;
                System.out.println("these calls never come to: " + answer);
            }
        }
        for (int i = 0; i < BENCHES; i++) {
            same("bench " + i + " again", alone(i), want[i]);
            readBetween(i, want[i]);
        }
        sideBySide(want);
        System.out.println(asked + " answers asked, " + wrong + " wrong");
        if (wrong != 0) {
            System.exit(1);
        }
    }
}
