/**
 * A bench of trials: cases drawn from one stated row of numbers by makers that are put together, checks of
 * them, small machines with planted faults beside their models, and properties tried until the first case
 * that fails, which is then made smaller step by step; all by a budget of effort.
 */
public final class CaseTrials {
    public static final int UNKNOWN = -1, OUTSIDE = -2, STATE = -3, FULL = -4, NONE = -9;

    // what a call answers beside the refusals
    private static final int GIVES_UP = -5, SPENT = -6, THREW = -10;
    private static final long NO_SIGN = -9223372036854775808L;

    // kinds of makers; the last two are parts of a case that no maker of their own makes:
    // a leaf of a shuffled row, and the leaf that stands behind the case in a below
    private static final int WHOLE = 0, LIST = 1, PAIR = 2, ONE_OF = 3, MAPPED = 4, PICKED = 5, SHUFFLED = 6,
            BELOW = 7, PLACE = 8, REST = 9, NO_KIND = -1;

    private static final int MAKERS = 30, CHECKS = 40, PROPERTIES = 20, LABELS = 3;
    private static final int WEIGHT = 24, MOST = 24, SIZE = 24, SHARE = 100, FUNCTIONS = 5;
    private static final int REACH = 1000000, TRIES = 8, SMALLER = 20, DRAWS = 1000, RUN_CASES = 50;
    private static final int EFFORT = 1500, MACHINES = 3, FAULTS = 4, PLACES = 5;

    // On each level of a case the weights of the parts add up to 24 at most, and a path goes through 30 makers
    // at most and one part without a maker, so no case has more parts than this.
    private static final int LEVELS = MAKERS + 1, PARTS = WEIGHT * LEVELS;

    // more edits than any case has
    private static final int EDITS = 1000000;

    private static final int MADE = 1, FOUND = 1, MISFIT = 0;

    // what a check says of a case; below these stands the kind of what it throws, negated
    private static final int HOLDS = 1, FAILS = 0, NO_QUOTIENT = -1, NO_PLACE = -2, MACHINE_THREW = -3;

    // what a run ends with, and where the row of the latest run tells what
    private static final int ALL_HELD = 0, FAILED = 1, GAVE_UP = 2, RAN_OUT = 3;
    private static final int ENDED = 0, CASES_MADE = 1, FAILING = 2, STEPS = 3, THROWN = 4, HELD = 5, RAN = 8;

    private static final long FACTOR = 6364136223846793005L, ADDEND = 1442695040888963407L;
    private static final long STRIDE = -7046029254386353131L;

    private final Judge judge = new Judge();
    private final Makers makers = new Makers(judge);
    private final Shrinker shrinker = new Shrinker(judge);
    private final Property[] properties = new Property[PROPERTIES];
    private int propertyCount = 0;

    private final Tree shown = new Tree();
    private final Leaves shownLeaves = new Leaves();
    private boolean isShown = false;

    private final int[] latest = new int[RAN];
    private boolean hasRun = false;
    private final Tree failedFirst = new Tree();
    private final Tree failedLast = new Tree();
    private final Leaves tried = new Leaves();

    public CaseTrials() {
    }

    // ---- 1 makers

    public int whole(int low, int high) {
        if (low < -REACH || high > REACH || low > high) {
            return OUTSIDE;
        }
        return makers.add(new Maker(WHOLE, low, high, 0, 0, 1, false));
    }

    public int listOf(int maker, int most) {
        Maker of = makers.at(maker);
        if (of == null) {
            return UNKNOWN;
        }
        if (most < 1 || most > MOST) {
            return OUTSIDE;
        }
        return makers.add(new Maker(LIST, maker, most, 0, 0, most * of.weight, of.picks));
    }

    public int pair(int a, int b) {
        Maker first = makers.at(a);
        Maker second = makers.at(b);
        if (first == null || second == null) {
            return UNKNOWN;
        }
        int weight = first.weight + second.weight;
        return makers.add(new Maker(PAIR, a, b, 0, 0, weight, first.picks || second.picks));
    }

    public int oneOf(int a, int p, int b, int q) {
        Maker first = makers.at(a);
        Maker second = makers.at(b);
        if (first == null || second == null) {
            return UNKNOWN;
        }
        if (p < 1 || p > SHARE || q < 1 || q > SHARE) {
            return OUTSIDE;
        }
        int weight = Math.max(first.weight, second.weight);
        return makers.add(new Maker(ONE_OF, a, b, p, q, weight, first.picks || second.picks));
    }

    public int mapped(int maker, int function) {
        Maker of = makers.at(maker);
        if (of == null) {
            return UNKNOWN;
        }
        if (function < 0 || function >= FUNCTIONS) {
            return OUTSIDE;
        }
        return makers.add(new Maker(MAPPED, maker, function, 0, 0, of.weight + 1, of.picks));
    }

    public int picked(int maker, int check) {
        Maker of = makers.at(maker);
        if (of == null || !judge.knows(check)) {
            return UNKNOWN;
        }
        if (of.picks) {
            return STATE;
        }
        return makers.add(new Maker(PICKED, maker, check, 0, 0, of.weight + 1, true));
    }

    public int shuffled(int n) {
        if (n < 1 || n > MOST) {
            return OUTSIDE;
        }
        return makers.add(new Maker(SHUFFLED, n, 0, 0, 0, n, false));
    }

    public int below(int maker) {
        Maker of = makers.at(maker);
        if (of == null) {
            return UNKNOWN;
        }
        return makers.add(new Maker(BELOW, maker, 0, 0, 0, of.weight + 1, of.picks));
    }

    public int maker(int m, int what) {
        Maker of = makers.at(m);
        if (of == null) {
            return UNKNOWN;
        }
        switch (what) {
            case 0:
                return of.kind;
            case 1:
                return of.weight;
            case 2:
                return of.picks ? 1 : 0;
            default:
                return OUTSIDE;
        }
    }

    // ---- 2 checks

    public int check(int kind, int a, int b) {
        if (kind < 0 || kind > Check.MACHINE || (kind == Check.MACHINE && !isMachine(a, b))) {
            return OUTSIDE;
        }
        Check check = new Check(kind, a, b);
        if ((check.asksFirst() && !judge.knows(a)) || (check.asksSecond() && !judge.knows(b))) {
            return UNKNOWN;
        }
        return judge.add(check);
    }

    // ---- 3 cases

    public int make(int maker, long seed, int size) {
        if (makers.at(maker) == null) {
            return UNKNOWN;
        }
        if (!isSize(size)) {
            return OUTSIDE;
        }
        makers.begin(seed, size);
        int made = makers.grow(maker, -1, 0);
        return made == MADE ? bringOut(makers.tree) : made;
    }

    public int smaller(int k) {
        if (k < 0 || k > SMALLER) {
            return OUTSIDE;
        }
        if (!isShown) {
            return NONE;
        }
        shrinker.start(shown);
        int found = FOUND;
        for (int i = 0; i <= k && found == FOUND; i++) {
            found = shrinker.advance();
        }
        return found == FOUND ? bringOut(shrinker.next) : found;
    }

    public long sign(int i) {
        return isShown ? shown.signAt(i, shownLeaves) : NO_SIGN;
    }

    public int holds(int check) {
        if (!judge.knows(check)) {
            return UNKNOWN;
        }
        if (!isShown) {
            return STATE;
        }
        int verdict = judge.verdict(check, shownLeaves);
        return verdict < 0 ? THREW + verdict : verdict;
    }

    public long script(int machine, int fault, int i, int what) {
        if (!isShown || !isMachine(machine, fault) || i < 0 || i >= shownLeaves.acts()) {
            return NO_SIGN;
        }
        switch (what) {
            case 0:
                return shownLeaves.act(i);
            case 1:
                return shownLeaves.number(i);
            case 2:
                return judge.answerOf(machine, fault, shownLeaves, i);
            case 3:
                return judge.answerOf(machine, 0, shownLeaves, i);
            default:
                return NO_SIGN;
        }
    }

    public int draw(long seed, int k, int n) {
        if (n < 1 || k < 0 || k > DRAWS) {
            return OUTSIDE;
        }
        long drawn = seed;
        for (int i = 0; i <= k; i++) {
            drawn = nextDraw(drawn);
        }
        return numberOf(drawn, n);
    }

    // ---- 4 properties

    public int property(int maker, int check) {
        if (makers.at(maker) == null || !judge.knows(check)) {
            return UNKNOWN;
        }
        if (propertyCount < 0 || propertyCount >= PROPERTIES) {
            return FULL;
        }
        properties[propertyCount] = new Property(maker, check);
        propertyCount++;
        return propertyCount - 1;
    }

    public int label(int property, int check) {
        Property of = propertyAt(property);
        if (of == null || !judge.knows(check)) {
            return UNKNOWN;
        }
        return of.addLabel(check);
    }

    public int run(int property, long seed, int n, int size) {
        Property of = propertyAt(property);
        if (of == null) {
            return UNKNOWN;
        }
        if (n < 1 || n > RUN_CASES || !isSize(size)) {
            return OUTSIDE;
        }
        startReport();
        int end = ALL_HELD;
        for (int k = 0; k < n && end == ALL_HELD; k++) {
            end = tryCase(of, seed + k * STRIDE, size);
            if (end == FAILED) {
                latest[FAILING] = k;
                shrink(of);
            }
        }
        latest[ENDED] = end;
        return end;
    }

    public int ran(int what) {
        if (what < 0 || what >= RAN) {
            return OUTSIDE;
        }
        return hasRun ? latest[what] : NONE;
    }

    public int show(boolean first) {
        if (!hasRun || latest[ENDED] != FAILED) {
            return STATE;
        }
        return bringOut(first ? failedFirst : failedLast);
    }

    public int effort() {
        return judge.effortLeft;
    }

    public int told(int what) {
        switch (what) {
            case 0:
                return makers.count;
            case 1:
                return judge.count;
            case 2:
                return propertyCount;
            case 3:
                return isShown ? shownLeaves.count : NONE;
            default:
                return OUTSIDE;
        }
    }

    // ---- what the calls share

    private static boolean isSize(int size) {
        return size >= 0 && size <= SIZE;
    }

    private static boolean isMachine(int machine, int fault) {
        return machine >= 0 && machine < MACHINES && fault >= 0 && fault < FAULTS;
    }

    private static long nextDraw(long drawn) {
        return drawn * FACTOR + ADDEND;
    }

    private static int numberOf(long drawn, int n) {
        return (int) ((drawn >>> 32) * n >>> 32);
    }

    private Property propertyAt(int number) {
        return number >= 0 && number < propertyCount && number < PROPERTIES ? properties[number] : null;
    }

    /** The tree becomes the shown case: how many signs it has. */
    private int bringOut(Tree tree) {
        shown.copy(tree);
        shown.gather(0, shown.size, shownLeaves);
        isShown = true;
        return shown.signs();
    }

    private void startReport() {
        for (int i = 0; i < RAN; i++) {
            latest[i] = 0;
        }
        latest[FAILING] = NONE;
        hasRun = true;
    }

    /** Makes one case of a run and holds it against the property: what the run ends with by it, or ALL_HELD. */
    private int tryCase(Property of, long seed, int size) {
        makers.begin(seed, size);
        int made = makers.grow(of.maker, -1, 0);
        if (made != MADE) {
            return made == SPENT ? RAN_OUT : GAVE_UP;
        }
        latest[CASES_MADE]++;
        makers.tree.gather(0, makers.tree.size, tried);
        for (int i = 0; i < LABELS && i < of.labelCount; i++) {
            if (judge.verdict(of.labels[i], tried) == HOLDS) {
                latest[HELD + i]++;
            }
        }
        if (!judge.pay()) {
            return RAN_OUT;
        }
        int verdict = judge.verdict(of.check, tried);
        if (verdict == HOLDS) {
            return ALL_HELD;
        }
        failedFirst.copy(makers.tree);
        failedLast.copy(makers.tree);
        latest[THROWN] = -verdict;
        return FAILED;
    }

    private void shrink(Property of) {
        shrinker.start(failedLast);
        // each case that is tried here costs effort, so the effort bounds the tries
        for (int i = 0; i <= EFFORT && shrinker.advance() == FOUND; i++) {
            if (!judge.pay()) {
                return;
            }
            shrinker.next.gather(0, shrinker.next.size, tried);
            int verdict = judge.verdict(of.check, tried);
            if (verdict != HOLDS) {
                failedLast.copy(shrinker.next);
                shrinker.start(failedLast);
                latest[STEPS]++;
                latest[THROWN] = -verdict;
            }
        }
    }

    /**
     * A maker. What a and b are is its kind's: the bounds of WHOLE; the maker and the most of LIST; the makers
     * of PAIR and ONE_OF; the maker and the function of MAPPED; the maker and the check of PICKED; the length
     * of SHUFFLED; the maker of BELOW.
     */
    private static final class Maker {
        private final int kind;
        private final int a;
        private final int b;
        private final int shareOfA;
        private final int shareOfB;
        private final int weight;
        private final boolean picks;

        private Maker(int kind, int a, int b, int shareOfA, int shareOfB, int weight, boolean picks) {
            this.kind = kind;
            this.a = a;
            this.b = b;
            this.shareOfA = shareOfA;
            this.shareOfB = shareOfB;
            this.weight = weight;
            this.picks = picks;
        }
    }

    /** The makers, and the making of cases by them. */
    private static final class Makers {
        private final Maker[] makers = new Maker[MAKERS];
        private int count = 0;
        private final Judge judge;
        private final Tree tree = new Tree();
        private final Leaves leaves = new Leaves();
        private long drawn = 0;
        private int size = 0;

        private Makers(Judge judge) {
            this.judge = judge;
        }

        private int add(Maker maker) {
            if (count < 0 || count >= MAKERS || maker.weight > WEIGHT) {
                return FULL;
            }
            makers[count] = maker;
            count++;
            return count - 1;
        }

        private Maker at(int number) {
            return number >= 0 && number < count && number < MAKERS ? makers[number] : null;
        }

        private void begin(long seed, int caseSize) {
            tree.cut(0);
            drawn = seed;
            size = caseSize;
        }

        private int numberBelow(int n) {
            drawn = nextDraw(drawn);
            return numberOf(drawn, n);
        }

        /** Adds a case of a maker to the tree: MADE, GIVES_UP or SPENT. */
        private int grow(int number, int parent, int depth) {
            Maker maker = at(number);
            // a maker is made of earlier ones only, and its weight bounds its parts, so this never comes to be
            if (maker == null || depth >= MAKERS) {
                return GIVES_UP;
            }
            int part = tree.add(maker.kind, 0, parent);
            if (part < 0) {
                return GIVES_UP;
            }
            int made = MADE;
            switch (maker.kind) {
                case WHOLE:
                    tree.setValue(part, maker.a + numberBelow(maker.b - maker.a + 1));
                    tree.setGoal(part, Math.max(maker.a, Math.min(0, maker.b)));
                    break;
                case LIST:
                    made = growList(maker, part, depth);
                    break;
                case PAIR:
                    tree.setValue(part, 2);
                    made = grow(maker.a, part, depth + 1);
                    if (made == MADE) {
                        made = grow(maker.b, part, depth + 1);
                    }
                    break;
                case ONE_OF:
                    boolean first = numberBelow(maker.shareOfA + maker.shareOfB) < maker.shareOfA;
                    made = grow(first ? maker.a : maker.b, part, depth + 1);
                    break;
                case MAPPED:
                    tree.setValue(part, maker.b);
                    made = grow(maker.a, part, depth + 1);
                    break;
                case PICKED:
                    made = growPicked(maker, part, depth);
                    break;
                case SHUFFLED:
                    growShuffled(maker.a, part);
                    break;
                default:
                    made = growBelow(maker, part, depth);
                    break;
            }
            tree.close(part);
            return made;
        }

        private int growList(Maker maker, int part, int depth) {
            int n = numberBelow(1 + Math.min(maker.b, size));
            tree.setValue(part, n);
            for (int i = 0; i < n; i++) {
                int made = grow(maker.a, part, depth + 1);
                if (made != MADE) {
                    return made;
                }
            }
            return MADE;
        }

        private int growPicked(Maker maker, int part, int depth) {
            tree.setValue(part, maker.b);
            for (int i = 0; i < TRIES; i++) {
                tree.cut(part + 1);
                int made = grow(maker.a, part, depth + 1);
                if (made != MADE) {
                    return made;
                }
                if (!judge.pay()) {
                    return SPENT;
                }
                tree.gather(part + 1, tree.size, leaves);
                int verdict = judge.verdict(maker.b, leaves);
                if (verdict != FAILS) {
                    return verdict == HOLDS ? MADE : GIVES_UP;
                }
            }
            return GIVES_UP;
        }

        private void growShuffled(int n, int part) {
            tree.setValue(part, n);
            for (int i = 0; i < n; i++) {
                tree.add(PLACE, i, part);
            }
            int first = part + 1;
            for (int i = n - 1; i >= 1; i--) {
                tree.exchange(first + i, first + numberBelow(i + 1));
            }
        }

        private int growBelow(Maker maker, int part, int depth) {
            tree.setValue(part, 2);
            int made = grow(maker.a, part, depth + 1);
            if (made != MADE) {
                return made;
            }
            tree.gather(part + 1, tree.size, leaves);
            int bound = Math.max(0, Math.min(leaves.sum(), REACH));
            tree.add(REST, numberBelow(1 + bound), part);
            return MADE;
        }
    }

    /**
     * A case as it was made: its parts, each ahead of those that it is made of. The value of a part is the
     * number of a leaf, the length of a row, the function of a MAPPED or the check of a PICKED; its goal is
     * what a leaf is made smaller towards; its end is the part behind all that it is made of.
     */
    private static final class Tree {
        private final int[] kinds = new int[PARTS];
        private final int[] values = new int[PARTS];
        private final int[] goals = new int[PARTS];
        private final int[] parents = new int[PARTS];
        private final int[] ends = new int[PARTS];
        private final int[] leavesAhead = new int[PARTS];
        private int size = 0;

        private boolean has(int part) {
            return part >= 0 && part < size && part < PARTS;
        }

        private int kind(int part) {
            return has(part) ? kinds[part] : NO_KIND;
        }

        private int value(int part) {
            return has(part) ? values[part] : 0;
        }

        private int goal(int part) {
            return has(part) ? goals[part] : 0;
        }

        private int parent(int part) {
            return has(part) ? parents[part] : -1;
        }

        private int end(int part) {
            return has(part) ? ends[part] : size;
        }

        private int add(int kind, int value, int parent) {
            if (size < 0 || size >= PARTS) {
                return -1;
            }
            kinds[size] = kind;
            values[size] = value;
            goals[size] = 0;
            parents[size] = parent;
            size++;
            ends[size - 1] = size;
            return size - 1;
        }

        private void setValue(int part, int value) {
            if (has(part)) {
                values[part] = value;
            }
        }

        private void setGoal(int part, int goal) {
            if (has(part)) {
                goals[part] = goal;
            }
        }

        /** All that has been added behind the part belongs to it. */
        private void close(int part) {
            if (has(part)) {
                ends[part] = size;
            }
        }

        private void cut(int newSize) {
            if (newSize >= 0 && newSize < size) {
                size = newSize;
            }
        }

        private void exchange(int one, int other) {
            int value = value(one);
            setValue(one, value(other));
            setValue(other, value);
        }

        private void copy(Tree from) {
            size = Math.max(0, Math.min(from.size, PARTS));
            System.arraycopy(from.kinds, 0, kinds, 0, size);
            System.arraycopy(from.values, 0, values, 0, size);
            System.arraycopy(from.goals, 0, goals, 0, size);
            System.arraycopy(from.parents, 0, parents, 0, size);
            System.arraycopy(from.ends, 0, ends, 0, size);
        }

        /** Takes n cases out of a row, from the one at the place on. */
        private void dropFromRow(int row, int place, int n) {
            int from = row + 1;
            for (int i = 0; i < place; i++) {
                from = end(from);
            }
            int to = from;
            for (int i = 0; i < n; i++) {
                to = end(to);
            }
            setValue(row, value(row) - n);
            dropParts(from, to);
        }

        /** The parts that stay move up; what told of parts behind the dropped ones tells of their new places. */
        private void dropParts(int from, int to) {
            if (from < 0 || to <= from || to > size || size > PARTS) {
                return;
            }
            int gone = to - from;
            for (int i = 0; i < size; i++) {
                if (i < from || i >= to) {
                    int at = i < from ? i : i - gone;
                    kinds[at] = kinds[i];
                    values[at] = values[i];
                    goals[at] = goals[i];
                    parents[at] = parents[i] >= to ? parents[i] - gone : parents[i];
                    ends[at] = ends[i] >= to ? ends[i] - gone : ends[i];
                }
            }
            size -= gone;
        }

        /** The leaves of the parts from .. to - 1, which are a case with all that it is made of. */
        private void gather(int from, int to, Leaves leaves) {
            leaves.count = 0;
            int first = Math.max(0, from);
            int behind = Math.min(Math.min(to, size), PARTS);
            for (int i = first; i < behind; i++) {
                leavesAhead[i] = leaves.count;
                if (isLeaf(kinds[i])) {
                    leaves.add(values[i]);
                }
            }
            // inner parts stand behind outer ones, so going backwards the inner mapping comes first
            for (int i = behind - 1; i >= first; i--) {
                if (kinds[i] == MAPPED) {
                    int end = ends[i];
                    int stop = end >= first && end < behind ? leavesAhead[end] : leaves.count;
                    leaves.map(values[i], leavesAhead[i], stop);
                }
            }
        }

        private int signs() {
            int signs = 0;
            for (int i = 0; i < size && i < PARTS; i++) {
                if (isLeaf(kinds[i]) || isRow(kinds[i])) {
                    signs += 2;
                }
            }
            return signs;
        }

        private long signAt(int place, Leaves leaves) {
            int signs = 0;
            int leaf = 0;
            for (int i = 0; i < size && i < PARTS; i++) {
                boolean ofLeaf = isLeaf(kinds[i]);
                if (!ofLeaf && !isRow(kinds[i])) {
                    continue;
                }
                if (signs == place) {
                    return ofLeaf ? 0 : 1;
                }
                if (signs + 1 == place) {
                    return ofLeaf ? leaves.get(leaf) : values[i];
                }
                signs += 2;
                leaf += ofLeaf ? 1 : 0;
            }
            return NO_SIGN;
        }

        private static boolean isLeaf(int kind) {
            return kind == WHOLE || kind == PLACE || kind == REST;
        }

        private static boolean isRow(int kind) {
            return kind == LIST || kind == PAIR || kind == SHUFFLED || kind == BELOW;
        }
    }

    /** The smaller cases of a case, one by one: each is the case with one edit at one part. */
    private static final class Shrinker {
        private final Judge judge;
        private final Leaves leaves = new Leaves();
        private final Tree base = new Tree();
        private final Tree next = new Tree();
        private int part = 0;
        private int edits = 0;

        private Shrinker(Judge judge) {
            this.judge = judge;
        }

        private void start(Tree of) {
            base.copy(of);
            part = 0;
            edits = 0;
        }

        /** The next smaller case comes to stand in next: FOUND, NONE or SPENT. */
        private int advance() {
            for (int i = 0; i < EDITS && part < base.size; i++) {
                if (edit()) {
                    edits++;
                    int settled = settle();
                    if (settled != MISFIT) {
                        return settled;
                    }
                } else {
                    part++;
                    edits = 0;
                }
            }
            return NONE;
        }

        /** The next edit at the part, if there is one. */
        private boolean edit() {
            switch (base.kind(part)) {
                case WHOLE:
                case REST:
                    return moveNearer();
                case LIST:
                    return shorten();
                case PLACE:
                    return edits == 0 && exchangeWithNext();
                default:
                    return false;
            }
        }

        private boolean moveNearer() {
            int value = base.value(part);
            int less = value - base.goal(part);
            for (int i = 0; i < edits && less != 0; i++) {
                less /= 2;
            }
            if (less == 0) {
                return false;
            }
            next.copy(base);
            next.setValue(part, value - less);
            return true;
        }

        private boolean shorten() {
            int n = base.value(part);
            int chunk = n;
            int place = edits;
            while (chunk > 0 && place >= n / chunk) {
                place -= n / chunk;
                chunk /= 2;
            }
            if (chunk <= 0) {
                return false;
            }
            next.copy(base);
            next.dropFromRow(part, place * chunk, chunk);
            return true;
        }

        private boolean exchangeWithNext() {
            if (base.kind(part + 1) != PLACE || base.value(part) <= base.value(part + 1)) {
                return false;
            }
            next.copy(base);
            next.exchange(part, part + 1);
            return true;
        }

        /** What stands around the edited part, from within: the leaf of a BELOW is lowered, a PICKED is asked. */
        private int settle() {
            int inner = part;
            int outer = next.parent(part);
            for (int i = 0; i < LEVELS && outer >= 0; i++) {
                if (next.kind(outer) == BELOW && inner == outer + 1) {
                    lowerRest(inner);
                } else if (next.kind(outer) == PICKED) {
                    if (!judge.pay()) {
                        return SPENT;
                    }
                    next.gather(inner, next.end(inner), leaves);
                    if (judge.verdict(next.value(outer), leaves) != HOLDS) {
                        return MISFIT;
                    }
                }
                inner = outer;
                outer = next.parent(inner);
            }
            return FOUND;
        }

        private void lowerRest(int first) {
            int rest = next.end(first);
            next.gather(first, rest, leaves);
            if (next.value(rest) > Math.max(0, leaves.sum())) {
                next.setValue(rest, 0);
            }
        }
    }

    /** The leaves of a case, in order; two by two they are the acts of a script. */
    private static final class Leaves {
        private final int[] row = new int[WEIGHT];
        private int count = 0;

        private void add(int leaf) {
            if (count >= 0 && count < WEIGHT) {
                row[count] = leaf;
                count++;
            }
        }

        private int get(int i) {
            return i >= 0 && i < count && i < WEIGHT ? row[i] : 0;
        }

        private int acts() {
            return count / 2;
        }

        private int act(int i) {
            return Math.floorMod(get(2 * i), 4);
        }

        private int number(int i) {
            return get(2 * i + 1);
        }

        private int sum() {
            int sum = 0;
            for (int i = 0; i < count; i++) {
                sum += get(i);
            }
            return sum;
        }

        /** The leaves from .. to - 1 go through a function. */
        private void map(int function, int from, int to) {
            for (int i = Math.max(0, from); i < to && i < WEIGHT; i++) {
                int leaf = row[i];
                switch (function) {
                    case 0:
                        row[i] = -leaf;
                        break;
                    case 1:
                        row[i] = 2 * leaf;
                        break;
                    case 2:
                        row[i] = leaf * leaf;
                        break;
                    case 3:
                        row[i] = leaf % 7;
                        break;
                    default:
                        sink(i, from);
                        break;
                }
            }
        }

        /** The leaf at the place goes down to where it belongs among the risen ones from .. place - 1. */
        private void sink(int place, int from) {
            for (int i = place; i > from && i > 0 && i < WEIGHT && row[i - 1] > row[i]; i--) {
                int above = row[i - 1];
                row[i - 1] = row[i];
                row[i] = above;
            }
        }

        private boolean allFrom(int least) {
            for (int i = 0; i < count; i++) {
                if (get(i) < least) {
                    return false;
                }
            }
            return true;
        }

        private boolean rise() {
            for (int i = 1; i < count; i++) {
                if (get(i - 1) > get(i)) {
                    return false;
                }
            }
            return true;
        }

        private boolean allDiffer() {
            for (int i = 1; i < count; i++) {
                for (int j = 0; j < i; j++) {
                    if (get(i) == get(j)) {
                        return false;
                    }
                }
            }
            return true;
        }

        /** For each leaf, 1000 by it less a is not 7. */
        private int noQuotientSeven(int a) {
            for (int i = 0; i < count; i++) {
                int divisor = get(i) - a;
                if (divisor == 0) {
                    return NO_QUOTIENT;
                }
                if (1000 / divisor == 7) {
                    return FAILS;
                }
            }
            return HOLDS;
        }

        /** For each leaf, the leaf at the place that it tells is not a. */
        private int noneTellsOf(int a) {
            for (int i = 0; i < count; i++) {
                int place = get(i);
                if (place < 0 || place >= count) {
                    return NO_PLACE;
                }
                if (get(place) == a) {
                    return FAILS;
                }
            }
            return HOLDS;
        }
    }

    /** A check: of BOTH, EITHER and NOT, a and b are numbers of checks. */
    private static final class Check {
        private static final int SUM_BELOW = 0, ALL_FROM = 1, FEWER = 2, RISE = 3, DIFFER = 4, SUM_BY = 5,
                QUOTIENTS = 6, TELLING = 7, BOTH = 8, EITHER = 9, NOT = 10, MACHINE = 11;
        private final int kind;
        private final int a;
        private final int b;

        private Check(int kind, int a, int b) {
            this.kind = kind;
            this.a = a;
            this.b = b;
        }

        private boolean asksFirst() {
            return kind == BOTH || kind == EITHER || kind == NOT;
        }

        private boolean asksSecond() {
            return kind == BOTH || kind == EITHER;
        }
    }

    /** A maker and a check, with the labels by which the cases are counted. */
    private static final class Property {
        private final int maker;
        private final int check;
        private final int[] labels = new int[LABELS];
        private int labelCount = 0;

        private Property(int maker, int check) {
            this.maker = maker;
            this.check = check;
        }

        private int addLabel(int labelCheck) {
            if (labelCount < 0 || labelCount >= LABELS) {
                return FULL;
            }
            labels[labelCount] = labelCheck;
            labelCount++;
            return labelCount;
        }
    }

    /** The checks, what they say of leaves, and the effort that is left for asking them. */
    private static final class Judge {
        private final Check[] checks = new Check[CHECKS];
        private int count = 0;
        private int effortLeft = EFFORT;
        private final boolean[] wanted = new boolean[CHECKS];
        private final int[] verdicts = new int[CHECKS];
        private final Machine machine = new Machine();
        private final Machine model = new Machine();

        private boolean knows(int number) {
            return number >= 0 && number < count && number < CHECKS;
        }

        private int add(Check check) {
            if (count < 0 || count >= CHECKS) {
                return FULL;
            }
            checks[count] = check;
            count++;
            return count - 1;
        }

        /** Whether there was effort left for asking once. */
        private boolean pay() {
            if (effortLeft <= 0) {
                return false;
            }
            effortLeft--;
            return true;
        }

        /** HOLDS, FAILS, or the kind of what the check throws, negated. */
        private int verdict(int number, Leaves leaves) {
            if (!knows(number)) {
                return FAILS;
            }
            markWanted(number);
            for (int i = 0; i <= number; i++) {
                Check check = checks[i];
                if (!wanted[i] || check == null) {
                    continue;
                }
                int a = check.a;
                switch (check.kind) {
                    case Check.SUM_BELOW:
                        verdicts[i] = leaves.sum() < a ? HOLDS : FAILS;
                        break;
                    case Check.ALL_FROM:
                        verdicts[i] = leaves.allFrom(a) ? HOLDS : FAILS;
                        break;
                    case Check.FEWER:
                        verdicts[i] = leaves.count < a ? HOLDS : FAILS;
                        break;
                    case Check.RISE:
                        verdicts[i] = leaves.rise() ? HOLDS : FAILS;
                        break;
                    case Check.DIFFER:
                        verdicts[i] = leaves.allDiffer() ? HOLDS : FAILS;
                        break;
                    case Check.SUM_BY:
                        verdicts[i] = a == 0 ? NO_QUOTIENT : leaves.sum() % a == 0 ? HOLDS : FAILS;
                        break;
                    case Check.QUOTIENTS:
                        verdicts[i] = leaves.noQuotientSeven(a);
                        break;
                    case Check.TELLING:
                        verdicts[i] = leaves.noneTellsOf(a);
                        break;
                    case Check.MACHINE:
                        verdicts[i] = goesWithModel(a, check.b, leaves);
                        break;
                    default:
                        verdicts[i] = combined(check);
                        break;
                }
            }
            return verdicts[number];
        }

        /**
         * Marks the check and those that it asks, which are all earlier ones. So each is asked just once: a
         * check of the same check twice, which is of the same check twice, and so on, would double the work
         * at each level.
         */
        private void markWanted(int number) {
            for (int i = 0; i < number; i++) {
                wanted[i] = false;
            }
            wanted[number] = true;
            for (int i = number; i >= 0; i--) {
                Check check = checks[i];
                if (!wanted[i] || check == null) {
                    continue;
                }
                if (check.asksFirst() && knows(check.a)) {
                    wanted[check.a] = true;
                }
                if (check.asksSecond() && knows(check.b)) {
                    wanted[check.b] = true;
                }
            }
        }

        private int combined(Check check) {
            int first = knows(check.a) ? verdicts[check.a] : FAILS;
            if (check.kind == Check.NOT) {
                return first == HOLDS ? FAILS : first == FAILS ? HOLDS : first;
            }
            int asksOn = check.kind == Check.BOTH ? HOLDS : FAILS;
            return first == asksOn && knows(check.b) ? verdicts[check.b] : first;
        }

        private int goesWithModel(int kind, int fault, Leaves leaves) {
            machine.start(kind, fault);
            model.start(kind, 0);
            for (int i = 0; i < leaves.acts(); i++) {
                int answer = machine.answer(leaves.act(i), leaves.number(i));
                if (machine.hasThrown) {
                    return MACHINE_THREW;
                }
                if (answer != model.answer(leaves.act(i), leaves.number(i))) {
                    return FAILS;
                }
            }
            return HOLDS;
        }

        /** What a machine answers to one act of a script; NO_SIGN, if it has thrown by then. */
        private long answerOf(int kind, int fault, Leaves leaves, int act) {
            machine.start(kind, fault);
            int answer = 0;
            for (int i = 0; i <= act && i < leaves.acts() && !machine.hasThrown; i++) {
                answer = machine.answer(leaves.act(i), leaves.number(i));
            }
            return machine.hasThrown ? NO_SIGN : answer;
        }
    }

    /** A machine of five places, with a fault or, with fault 0, as its model is. */
    private static final class Machine {
        private static final int PILE = 0, SORTED = 2;
        private static final int OVERWRITES = 1, ANSWERS_ZERO = 2, THROWS = 3;

        // of a pile from the lowest up, of a line from the first on, of a sorted row from the least up
        private final int[] places = new int[PLACES];
        private int count = 0;
        private int kind = 0;
        private int fault = 0;
        private boolean hasThrown = false;

        private void start(int itsKind, int itsFault) {
            kind = itsKind;
            fault = itsFault;
            count = 0;
            hasThrown = false;
        }

        private int answer(int act, int number) {
            int end = kind == PILE ? count - 1 : 0;
            switch (act) {
                case 0:
                    if (count < PLACES) {
                        put(number);
                        return 1;
                    }
                    hasThrown = fault == THROWS;
                    if (fault == OVERWRITES) {
                        take(kind == SORTED ? count - 1 : 0);
                        put(number);
                        return 1;
                    }
                    return 0;
                case 1:
                    return count == 0 && fault == ANSWERS_ZERO ? 0 : take(end);
                case 2:
                    if (kind == SORTED) {
                        return howManyLike(number);
                    }
                    return end >= 0 && end < count && end < PLACES ? places[end] : -1;
                default:
                    return count;
            }
        }

        private void put(int number) {
            if (count < 0 || count >= PLACES) {
                return;
            }
            int place = count;
            while (kind == SORTED && place > 0 && places[place - 1] > number) {
                places[place] = places[place - 1];
                place--;
            }
            places[place] = number;
            count++;
        }

        /** The number at the place goes; -1, if there is none. */
        private int take(int place) {
            if (place < 0 || place >= count || place >= PLACES) {
                return -1;
            }
            int taken = places[place];
            for (int i = place; i < count - 1 && i < PLACES - 1; i++) {
                places[i] = places[i + 1];
            }
            count--;
            return taken;
        }

        private int howManyLike(int number) {
            int alike = 0;
            for (int i = 0; i < count && i < PLACES; i++) {
                if (places[i] == number) {
                    alike++;
                }
            }
            return alike;
        }
    }
}
