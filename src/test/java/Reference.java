import java.util.ArrayList;
import java.util.Collections;
import java.util.List;
import java.util.function.Predicate;

/**
 * The document once more, written in another way than the class is: cases are nested lists, each made case
 * knows its smaller ones as objects, what is thrown is thrown. For holding the class against it.
 */
final class Reference {
    static final class GivesUp extends RuntimeException {
    }

    static final class Spent extends RuntimeException {
    }

    static final class Thrown extends RuntimeException {
        final int kind;

        Thrown(int kind) {
            this.kind = kind;
        }
    }

    /** A case as it was made: the case, an Integer or a List of cases, and the smaller ones. */
    abstract class Made {
        abstract Object it();

        /** Visits the smaller ones in order, till a visit answers true; whether one did. */
        abstract boolean smaller(Predicate<Made> visit);
    }

    /** A maker: how it makes a case. */
    abstract class Maker {
        int kind;
        int weight;
        boolean picks;

        abstract Made make(Row row, int size);
    }

    static final class Row {
        long at;

        Row(long seed) {
            at = seed;
        }

        int below(int n) {
            at = at * 6364136223846793005L + 1442695040888963407L;
            long upper = (at >> 32) & 0xffffffffL;
            return java.math.BigInteger.valueOf(upper).multiply(java.math.BigInteger.valueOf(n)).shiftRight(32)
                    .intValueExact();
        }
    }

    interface Check {
        boolean holds(List<Integer> leaves);
    }

    static final class Property {
        Maker maker;
        Check check;
        List<Check> labels = new ArrayList<>();
    }

    final List<Maker> makers = new ArrayList<>();
    final List<Check> checks = new ArrayList<>();
    final List<Property> properties = new ArrayList<>();
    int effort = 1500;
    Made shown;
    int[] latest;
    Made failedFirst;
    Made failedLast;

    // ---- cases

    static void leavesInto(Object c, List<Integer> out) {
        if (c instanceof Integer) {
            out.add((Integer) c);
        } else {
            for (Object part : (List<?>) c) {
                leavesInto(part, out);
            }
        }
    }

    static List<Integer> leaves(Object c) {
        List<Integer> out = new ArrayList<>();
        leavesInto(c, out);
        return out;
    }

    static void signsInto(Object c, List<Long> out) {
        if (c instanceof Integer) {
            out.add(0L);
            out.add((long) (Integer) c);
        } else {
            List<?> row = (List<?>) c;
            out.add(1L);
            out.add((long) row.size());
            for (Object part : row) {
                signsInto(part, out);
            }
        }
    }

    static List<Long> signs(Object c) {
        List<Long> out = new ArrayList<>();
        signsInto(c, out);
        return out;
    }

    static int sum(List<Integer> leaves) {
        int s = 0;
        for (int leaf : leaves) {
            s += leaf;
        }
        return s;
    }

    static Object refill(Object c, java.util.Iterator<Integer> leaves) {
        if (c instanceof Integer) {
            return leaves.next();
        }
        List<Object> row = new ArrayList<>();
        for (Object part : (List<?>) c) {
            row.add(refill(part, leaves));
        }
        return row;
    }

    static Object map(Object c, int function) {
        List<Integer> leaves = leaves(c);
        if (function == 4) {
            Collections.sort(leaves);
        } else {
            for (int i = 0; i < leaves.size(); i++) {
                int x = leaves.get(i);
                leaves.set(i, function == 0 ? -x : function == 1 ? x + x : function == 2 ? x * x : x % 7);
            }
        }
        return refill(c, leaves.iterator());
    }

    // ---- made cases

    final class MadeWhole extends Made {
        final int low;
        final int high;
        final int v;

        MadeWhole(int low, int high, int v) {
            this.low = low;
            this.high = high;
            this.v = v;
        }

        Object it() {
            return v;
        }

        boolean smaller(Predicate<Made> visit) {
            int t = low > 0 ? low : high < 0 ? high : 0;
            long d = v - t;
            for (long by = 1; d / by != 0; by *= 2) {
                if (visit.test(new MadeWhole(low, high, (int) (v - d / by)))) {
                    return true;
                }
            }
            return false;
        }
    }

    final class MadeList extends Made {
        final List<Made> parts;

        MadeList(List<Made> parts) {
            this.parts = parts;
        }

        Object it() {
            List<Object> row = new ArrayList<>();
            for (Made part : parts) {
                row.add(part.it());
            }
            return row;
        }

        boolean smaller(Predicate<Made> visit) {
            int n = parts.size();
            for (int c = n; c > 0; c /= 2) {
                for (int from = 0; from + c <= n; from += c) {
                    List<Made> rest = new ArrayList<>(parts.subList(0, from));
                    rest.addAll(parts.subList(from + c, n));
                    if (visit.test(new MadeList(rest))) {
                        return true;
                    }
                }
            }
            for (int i = 0; i < n; i++) {
                final int at = i;
                if (parts.get(i).smaller(s -> {
                    List<Made> other = new ArrayList<>(parts);
                    other.set(at, s);
                    return visit.test(new MadeList(other));
                })) {
                    return true;
                }
            }
            return false;
        }
    }

    final class MadePair extends Made {
        final Made first;
        final Made second;

        MadePair(Made first, Made second) {
            this.first = first;
            this.second = second;
        }

        Object it() {
            return new ArrayList<>(List.of(first.it(), second.it()));
        }

        boolean smaller(Predicate<Made> visit) {
            return first.smaller(s -> visit.test(new MadePair(s, second)))
                    || second.smaller(s -> visit.test(new MadePair(first, s)));
        }
    }

    final class MadeMapped extends Made {
        final Made of;
        final int function;

        MadeMapped(Made of, int function) {
            this.of = of;
            this.function = function;
        }

        Object it() {
            return map(of.it(), function);
        }

        boolean smaller(Predicate<Made> visit) {
            return of.smaller(s -> visit.test(new MadeMapped(s, function)));
        }
    }

    final class MadePicked extends Made {
        final Made of;
        final Check check;

        MadePicked(Made of, Check check) {
            this.of = of;
            this.check = check;
        }

        Object it() {
            return of.it();
        }

        boolean smaller(Predicate<Made> visit) {
            return of.smaller(s -> {
                boolean fits;
                try {
                    fits = ask(check, s);
                } catch (Thrown t) {
                    fits = false;
                }
                return fits && visit.test(new MadePicked(s, check));
            });
        }
    }

    final class MadeShuffled extends Made {
        final List<Integer> row;

        MadeShuffled(List<Integer> row) {
            this.row = row;
        }

        Object it() {
            return new ArrayList<Object>(row);
        }

        boolean smaller(Predicate<Made> visit) {
            for (int i = 0; i + 1 < row.size(); i++) {
                if (row.get(i) > row.get(i + 1)) {
                    List<Integer> other = new ArrayList<>(row);
                    Collections.swap(other, i, i + 1);
                    if (visit.test(new MadeShuffled(other))) {
                        return true;
                    }
                }
            }
            return false;
        }
    }

    final class MadeBelow extends Made {
        final Made first;
        final int second;

        MadeBelow(Made first, int second) {
            this.first = first;
            this.second = second;
        }

        Object it() {
            return new ArrayList<Object>(List.of(first.it(), second));
        }

        boolean smaller(Predicate<Made> visit) {
            return first.smaller(s -> {
                boolean above = second > Math.max(0, sum(leaves(s.it())));
                return visit.test(new MadeBelow(s, above ? 0 : second));
            }) || new MadeWhole(0, second, second).smaller(s -> visit.test(new MadeBelow(first, (Integer) s.it())));
        }
    }

    boolean ask(Check check, Made made) {
        if (effort == 0) {
            throw new Spent();
        }
        effort--;
        return check.holds(leaves(made.it()));
    }

    // ---- makers

    static boolean outside(int x, int low, int high) {
        return x < low || x > high;
    }

    boolean noMaker(int m) {
        return outside(m, 0, makers.size() - 1);
    }

    boolean noCheck(int c) {
        return outside(c, 0, checks.size() - 1);
    }

    int add(Maker m, int kind, int weight, boolean picks) {
        if (makers.size() == 30 || weight > 24) {
            return -4;
        }
        m.kind = kind;
        m.weight = weight;
        m.picks = picks;
        makers.add(m);
        return makers.size() - 1;
    }

    int whole(int low, int high) {
        if (outside(low, -1000000, 1000000) || outside(high, -1000000, 1000000) || low > high) {
            return -2;
        }
        return add(new Maker() {
            Made make(Row row, int size) {
                return new MadeWhole(low, high, low + row.below(high - low + 1));
            }
        }, 0, 1, false);
    }

    int listOf(int maker, int most) {
        if (noMaker(maker)) {
            return -1;
        }
        if (outside(most, 1, 24)) {
            return -2;
        }
        Maker of = makers.get(maker);
        return add(new Maker() {
            Made make(Row row, int size) {
                int n = row.below(1 + Math.min(most, size));
                List<Made> parts = new ArrayList<>();
                for (int i = 0; i < n; i++) {
                    parts.add(of.make(row, size));
                }
                return new MadeList(parts);
            }
        }, 1, most * of.weight, of.picks);
    }

    int pair(int a, int b) {
        if (noMaker(a) || noMaker(b)) {
            return -1;
        }
        Maker first = makers.get(a);
        Maker second = makers.get(b);
        return add(new Maker() {
            Made make(Row row, int size) {
                Made one = first.make(row, size);
                return new MadePair(one, second.make(row, size));
            }
        }, 2, first.weight + second.weight, first.picks || second.picks);
    }

    int oneOf(int a, int p, int b, int q) {
        if (noMaker(a) || noMaker(b)) {
            return -1;
        }
        if (outside(p, 1, 100) || outside(q, 1, 100)) {
            return -2;
        }
        Maker first = makers.get(a);
        Maker second = makers.get(b);
        return add(new Maker() {
            Made make(Row row, int size) {
                return row.below(p + q) < p ? first.make(row, size) : second.make(row, size);
            }
        }, 3, Math.max(first.weight, second.weight), first.picks || second.picks);
    }

    int mapped(int maker, int function) {
        if (noMaker(maker)) {
            return -1;
        }
        if (outside(function, 0, 4)) {
            return -2;
        }
        Maker of = makers.get(maker);
        return add(new Maker() {
            Made make(Row row, int size) {
                return new MadeMapped(of.make(row, size), function);
            }
        }, 4, of.weight + 1, of.picks);
    }

    int picked(int maker, int check) {
        if (noMaker(maker) || noCheck(check)) {
            return -1;
        }
        Maker of = makers.get(maker);
        if (of.picks) {
            return -3;
        }
        Check fits = checks.get(check);
        return add(new Maker() {
            Made make(Row row, int size) {
                for (int i = 0; i < 8; i++) {
                    Made made = of.make(row, size);
                    boolean fit;
                    try {
                        fit = ask(fits, made);
                    } catch (Thrown t) {
                        throw new GivesUp();
                    }
                    if (fit) {
                        return new MadePicked(made, fits);
                    }
                }
                throw new GivesUp();
            }
        }, 5, of.weight + 1, true);
    }

    int shuffled(int n) {
        if (outside(n, 1, 24)) {
            return -2;
        }
        return add(new Maker() {
            Made make(Row row, int size) {
                List<Integer> order = new ArrayList<>();
                for (int i = 0; i < n; i++) {
                    order.add(i);
                }
                for (int i = n - 1; i > 0; i--) {
                    Collections.swap(order, i, row.below(i + 1));
                }
                return new MadeShuffled(order);
            }
        }, 6, n, false);
    }

    int below(int maker) {
        if (noMaker(maker)) {
            return -1;
        }
        Maker of = makers.get(maker);
        return add(new Maker() {
            Made make(Row row, int size) {
                Made made = of.make(row, size);
                int bound = Math.min(1000000, Math.max(0, sum(leaves(made.it()))));
                return new MadeBelow(made, row.below(1 + bound));
            }
        }, 7, of.weight + 1, of.picks);
    }

    int maker(int m, int what) {
        if (noMaker(m)) {
            return -1;
        }
        Maker of = makers.get(m);
        return what == 0 ? of.kind : what == 1 ? of.weight : what == 2 ? of.picks ? 1 : 0 : -2;
    }

    // ---- checks and machines

    /** The answers of a machine to a script; a null and nothing more from where it throws. */
    static List<Integer> answers(int machine, int fault, List<Integer> leaves) {
        List<Integer> held = new ArrayList<>();
        List<Integer> answers = new ArrayList<>();
        for (int i = 0; i + 1 < leaves.size(); i += 2) {
            int act = ((leaves.get(i) % 4) + 4) % 4;
            int number = leaves.get(i + 1);
            if (act == 0) {
                boolean full = held.size() == 5;
                if (full && fault == 3) {
                    answers.add(null);
                    return answers;
                }
                if (full && fault == 1) {
                    held.remove(machine == 2 ? 4 : 0);
                    full = false;
                }
                if (!full) {
                    held.add(number);
                    if (machine == 2) {
                        Collections.sort(held);
                    }
                }
                answers.add(full ? 0 : 1);
            } else if (act == 3) {
                answers.add(held.size());
            } else if (act == 2 && machine == 2) {
                answers.add(Collections.frequency(held, number));
            } else if (held.isEmpty()) {
                answers.add(act == 1 && fault == 2 ? 0 : -1);
            } else {
                int place = machine == 0 ? held.size() - 1 : 0;
                answers.add(act == 1 ? held.remove(place) : held.get(place));
            }
        }
        return answers;
    }

    static Check simple(int kind, int a) {
        switch (kind) {
            case 0:
                return leaves -> sum(leaves) < a;
            case 1:
                return leaves -> leaves.stream().allMatch(x -> x >= a);
            case 2:
                return leaves -> leaves.size() < a;
            case 3:
                return leaves -> {
                    List<Integer> sorted = new ArrayList<>(leaves);
                    Collections.sort(sorted);
                    return sorted.equals(leaves);
                };
            case 4:
                return leaves -> new java.util.HashSet<>(leaves).size() == leaves.size();
            case 5:
                return leaves -> {
                    if (a == 0) {
                        throw new Thrown(1);
                    }
                    return (long) sum(leaves) % (long) a == 0;
                };
            case 6:
                return leaves -> {
                    for (int leaf : leaves) {
                        int by = leaf - a;
                        if (by == 0) {
                            throw new Thrown(1);
                        }
                        if (1000 / by == 7) {
                            return false;
                        }
                    }
                    return true;
                };
            default:
                return leaves -> {
                    for (int leaf : leaves) {
                        if (outside(leaf, 0, leaves.size() - 1)) {
                            throw new Thrown(2);
                        }
                        if (leaves.get(leaf) == a) {
                            return false;
                        }
                    }
                    return true;
                };
        }
    }

    int check(int kind, int a, int b) {
        if (outside(kind, 0, 11) || kind == 11 && (outside(a, 0, 2) || outside(b, 0, 3))) {
            return -2;
        }
        if (kind >= 8 && kind <= 10 && (noCheck(a) || kind != 10 && noCheck(b))) {
            return -1;
        }
        if (checks.size() == 40) {
            return -4;
        }
        if (kind < 8) {
            checks.add(simple(kind, a));
        } else if (kind == 11) {
            checks.add(leaves -> {
                List<Integer> answers = answers(a, b, leaves);
                if (answers.contains(null)) {
                    throw new Thrown(3);
                }
                return answers.equals(answers(a, 0, leaves));
            });
        } else {
            Check one = checks.get(a);
            Check two = kind == 10 ? null : checks.get(b);
            checks.add(kind == 8 ? leaves -> one.holds(leaves) && two.holds(leaves)
                    : kind == 9 ? leaves -> one.holds(leaves) || two.holds(leaves)
                    : leaves -> !one.holds(leaves));
        }
        return checks.size() - 1;
    }

    // ---- the shown case

    int bringOut(Made made) {
        shown = made;
        return signs(made.it()).size();
    }

    int make(int maker, long seed, int size) {
        if (noMaker(maker)) {
            return -1;
        }
        if (outside(size, 0, 24)) {
            return -2;
        }
        try {
            return bringOut(makers.get(maker).make(new Row(seed), size));
        } catch (GivesUp e) {
            return -5;
        } catch (Spent e) {
            return -6;
        }
    }

    int smaller(int k) {
        if (outside(k, 0, 20)) {
            return -2;
        }
        if (shown == null) {
            return -9;
        }
        List<Made> found = new ArrayList<>();
        try {
            shown.smaller(s -> {
                found.add(s);
                return found.size() == k + 1;
            });
        } catch (Spent e) {
            return -6;
        }
        return found.size() == k + 1 ? bringOut(found.get(k)) : -9;
    }

    long sign(int i) {
        List<Long> signs = shown == null ? List.of() : signs(shown.it());
        return outside(i, 0, signs.size() - 1) ? Long.MIN_VALUE : signs.get(i);
    }

    int holds(int check) {
        if (noCheck(check)) {
            return -1;
        }
        if (shown == null) {
            return -3;
        }
        try {
            return checks.get(check).holds(leaves(shown.it())) ? 1 : 0;
        } catch (Thrown t) {
            return -10 - t.kind;
        }
    }

    long script(int machine, int fault, int i, int what) {
        if (shown == null || outside(machine, 0, 2) || outside(fault, 0, 3) || outside(what, 0, 3)) {
            return Long.MIN_VALUE;
        }
        List<Integer> leaves = leaves(shown.it());
        if (outside(i, 0, leaves.size() / 2 - 1)) {
            return Long.MIN_VALUE;
        }
        if (what < 2) {
            return what == 0 ? ((leaves.get(2 * i) % 4) + 4) % 4 : leaves.get(2 * i + 1);
        }
        List<Integer> answers = answers(machine, what == 2 ? fault : 0, leaves);
        return i >= answers.size() || answers.get(i) == null ? Long.MIN_VALUE : answers.get(i);
    }

    int draw(long seed, int k, int n) {
        if (n < 1 || outside(k, 0, 1000)) {
            return -2;
        }
        Row row = new Row(seed);
        int number = -1;
        for (int i = 0; i <= k; i++) {
            number = row.below(n);
        }
        return number;
    }

    // ---- properties

    int property(int maker, int check) {
        if (noMaker(maker) || noCheck(check)) {
            return -1;
        }
        if (properties.size() == 20) {
            return -4;
        }
        Property p = new Property();
        p.maker = makers.get(maker);
        p.check = checks.get(check);
        properties.add(p);
        return properties.size() - 1;
    }

    int label(int property, int check) {
        if (outside(property, 0, properties.size() - 1) || noCheck(check)) {
            return -1;
        }
        List<Check> labels = properties.get(property).labels;
        if (labels.size() == 3) {
            return -4;
        }
        labels.add(checks.get(check));
        return labels.size();
    }

    /** -1 if the check does not hold, 0 if it holds, else the kind of what it throws. */
    int fate(Check check, Made made) {
        try {
            return ask(check, made) ? 0 : -1;
        } catch (Thrown t) {
            return t.kind;
        }
    }

    int run(int property, long seed, int n, int size) {
        if (outside(property, 0, properties.size() - 1)) {
            return -1;
        }
        if (outside(n, 1, 50) || outside(size, 0, 24)) {
            return -2;
        }
        latest = new int[8];
        latest[2] = -9;
        failedFirst = null;
        failedLast = null;
        Property p = properties.get(property);
        try {
            for (int k = 0; k < n && failedFirst == null; k++) {
                Made made = p.maker.make(new Row(seed + k * -7046029254386353131L), size);
                latest[1]++;
                for (int i = 0; i < p.labels.size(); i++) {
                    try {
                        latest[5 + i] += p.labels.get(i).holds(leaves(made.it())) ? 1 : 0;
                    } catch (Thrown t) {
                        // one that throws does not hold
                    }
                }
                int fate = fate(p.check, made);
                if (fate != 0) {
                    failedFirst = made;
                    failedLast = made;
                    latest[0] = 1;
                    latest[2] = k;
                    latest[4] = Math.max(0, fate);
                }
            }
        } catch (GivesUp e) {
            latest[0] = 2;
        } catch (Spent e) {
            latest[0] = 3;
        }
        boolean smaller = failedFirst != null;
        while (smaller) {
            try {
                smaller = failedLast.smaller(s -> {
                    int fate = fate(p.check, s);
                    if (fate != 0) {
                        failedLast = s;
                        latest[3]++;
                        latest[4] = Math.max(0, fate);
                    }
                    return fate != 0;
                });
            } catch (Spent e) {
                smaller = false;
            }
        }
        return latest[0];
    }

    int ran(int what) {
        return outside(what, 0, 7) ? -2 : latest == null ? -9 : latest[what];
    }

    int show(boolean first) {
        return failedFirst == null ? -3 : bringOut(first ? failedFirst : failedLast);
    }

    int effort() {
        return effort;
    }

    int told(int what) {
        switch (what) {
            case 0:
                return makers.size();
            case 1:
                return checks.size();
            case 2:
                return properties.size();
            case 3:
                return shown == null ? -9 : leaves(shown.it()).size();
            default:
                return -2;
        }
    }
}
