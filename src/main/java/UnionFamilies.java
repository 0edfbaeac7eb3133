import java.util.Arrays;

/**
 * Families of sets that are closed under unions, told by generators.
 * A set is held as bits (point a is 1, b is 2, c is 4 ..).
 */
public final class UnionFamilies {
    public static final int NONE = -1;

    private static final int LACKS = -2;
    private static final int FIRST_FAULT = -4;
    private static final int MOST_POINTS = 7;
    private static final int MOST_SETS = 128;
    private static final int MOST_GENERATORS = 12;
    private static final int MOST_LISTED = 20;
    private static final int MOST_ACTS = 12;
    private static final int MOST_WEIGHT = 9;
    private static final int POINTS_AT_FIRST = 4;
    private static final int TAPE_ROOM = 300;
    private static final int FEED_BYTES = 20;
    private static final int MOST_SHARED = 40;
    private static final int TRIAL_WEIGHTS = 3;
    private static final int FAR = 1000000;
    private static final String POINTS_WORD = "points";
    private static final String WEIGHT_WORD = "weight";
    private static final String SET_WORD = "set";

    private final State now;
    private final State next;
    private final History history;
    private final Row tape;
    private final Reader reader;
    private final Speller speller;
    private final Family closed;
    private final Order order;
    private final Spread antichain;
    private final Trace cut;
    private final Were were;
    private final int[] trial;

    public UnionFamilies() {
        now = new State();
        next = new State();
        history = new History();
        tape = new Row(TAPE_ROOM);
        reader = new Reader(tape, next);
        speller = new Speller();
        closed = new Family();
        order = new Order(closed);
        antichain = new Spread(closed.members);
        cut = new Trace(closed);
        were = new Were(closed);
        trial = new int[MOST_POINTS];
        refresh();
    }

    // ---- told

    public int feed(int a, int b, int c, int d, int e) {
        if (tape.size + FEED_BYTES > TAPE_ROOM) {
            return NONE;
        }
        tape.appendBytes(a);
        tape.appendBytes(b);
        tape.appendBytes(c);
        tape.appendBytes(d);
        tape.appendBytes(e);
        return tape.size;
    }

    public int back(int n) {
        if (n < 0 || n > tape.size) {
            return NONE;
        }
        tape.size -= n;
        return tape.size;
    }

    public int text() {
        int fault = reader.read();
        tape.clear();
        if (fault != NONE) {
            return FIRST_FAULT - fault;
        }
        next.keepList(now.told);
        now.copy(next);
        history.clear();
        refresh();
        return now.generators.size;
    }

    // ---- acts

    public int generate(int set) {
        if (!isFilledSet(set) || now.generators.find(set) != NONE || now.generators.size >= MOST_GENERATORS) {
            return NONE;
        }
        next.copy(now);
        next.generators.append(set);
        settle();
        return now.generators.size - 1;
    }

    public boolean drop(int generator) {
        if (!isGenerator(generator)) {
            return false;
        }
        next.copy(now);
        next.generators.cutOut(generator);
        settle();
        return true;
    }

    public int change(int generator, int set) {
        if (!isGenerator(generator) || !isFilledSet(set) || now.generators.find(set) != NONE) {
            return NONE;
        }
        int old = now.generators.at(generator);
        next.copy(now);
        next.generators.replace(generator, set);
        settle();
        return old;
    }

    public int weigh(int point, int weight) {
        if (!isPoint(point) || weight < 0 || weight > MOST_WEIGHT) {
            return NONE;
        }
        int old = now.weightOf(point);
        if (old == weight) {
            return NONE;
        }
        next.copy(now);
        next.setWeight(point, weight);
        settle();
        return old;
    }

    public int swap(int point, int other) {
        if (!isPoint(point) || !isPoint(other) || point == other) {
            return NONE;
        }
        next.copy(now);
        int changed = 0;
        for (int g = 0; g < now.generators.size; g++) {
            int set = now.generators.at(g);
            int moved = exchanged(set, point, other);
            if (moved != set) {
                next.generators.replace(g, moved);
                changed++;
            }
        }
        return settleChanged(changed);
    }

    public int turn() {
        next.copy(now);
        int changed = 0;
        for (int g = 0; g < now.generators.size; g++) {
            int set = now.generators.at(g);
            int moved = rotated(set, now.points);
            if (moved != set) {
                next.generators.replace(g, moved);
                changed++;
            }
        }
        return settleChanged(changed);
    }

    public int without(int point) {
        if (!isPoint(point) || generatorsWith(point) == 0) {
            return NONE;
        }
        next.copy(now);
        next.generators.clear();
        for (int g = 0; g < now.generators.size; g++) {
            int rest = now.generators.at(g) & ~(1 << point);
            if (rest != 0 && next.generators.find(rest) == NONE) {
                next.generators.append(rest);
            }
        }
        settle();
        return now.generators.size;
    }

    public int lean() {
        next.copy(now);
        next.generators.clear();
        for (int g = 0; g < now.generators.size; g++) {
            if (!isIdle(g)) {
                next.generators.append(now.generators.at(g));
            }
        }
        return settleChanged(now.generators.size - next.generators.size);
    }

    public int basis() {
        return replaceGenerators(closed.base);
    }

    public int list(int set) {
        if (!isFilledSet(set) || now.told.find(set) != NONE || now.told.size >= MOST_LISTED) {
            return NONE;
        }
        next.copy(now);
        next.told.append(set);
        settle();
        return now.told.size;
    }

    public int strike(int i) {
        if (i < 0 || i >= now.told.size) {
            return NONE;
        }
        next.copy(now);
        next.told.cutOut(i);
        settle();
        return now.told.size;
    }

    public int adopt() {
        if (now.told.size == 0) {
            return NONE;
        }
        return replaceGenerators(now.told);
    }

    public int undo() {
        if (history.size == 0) {
            return NONE;
        }
        history.pop(now);
        refresh();
        return history.size;
    }

    // ---- asked

    public int generator(int generator, int what) {
        if (!isGenerator(generator)) {
            return NONE;
        }
        switch (what) {
            case 0:
                return now.generators.at(generator);
            case 1:
                return bit(isIdle(generator));
            case 2:
                return closed.numberOf(now.generators.at(generator));
            default:
                return NONE;
        }
    }

    public int member(int k) {
        return closed.members.at(k);
    }

    public int place(int set) {
        return isSet(set) ? closed.numberOf(set) : NONE;
    }

    public int based(int k) {
        return closed.base.at(k);
    }

    public int point(int point, int what) {
        if (!isPoint(point)) {
            return NONE;
        }
        switch (what) {
            case 0:
                return closed.oftenOf(point);
            case 1:
                return bit(closed.isFrequent(point));
            case 2:
                return now.weightOf(point);
            case 3:
                return generatorsWith(point);
            case 4:
                return closed.firstTwin(point);
            case 5:
                return closed.leastSizeWith(point);
            default:
                return NONE;
        }
    }

    public int family(int what) {
        switch (what) {
            case 0:
                return closed.members.size;
            case 1:
                return closed.top();
            case 2:
                return closed.base.size;
            case 3:
                return closed.frequentPoints();
            case 4:
                return closed.pointRanked(0);
            case 5:
                return order.height();
            case 6:
                return antichain.most();
            case 7:
                return order.pairs();
            case 8:
                return cut.depth();
            case 9:
                return bit(closed.isProof(now.weights));
            case 10:
                return closed.massOfAll(now.weights);
            case 11:
                return order.coversOf(0, true);
            case 12:
                return order.coversOf(closed.members.size - 1, false);
            default:
                return NONE;
        }
    }

    public int sized(int size) {
        if (size < 0 || size > MOST_POINTS) {
            return NONE;
        }
        int found = 0;
        for (int k = 0; k < closed.members.size; k++) {
            if (Integer.bitCount(closed.members.at(k)) == size) {
                found++;
            }
        }
        return found;
    }

    public int mean(int what, boolean lower) {
        if (what != 0 && what != 1) {
            return NONE;
        }
        int sum = what == 0 ? closed.sizeOfAll() : closed.massOfAll(now.weights);
        int divisor = commonDivisor(sum, closed.members.size);
        if (divisor <= 0) {
            return NONE;
        }
        return (lower ? closed.members.size : sum) / divisor;
    }

    public int mass(int set) {
        return isSet(set) ? now.massOf(set) : NONE;
    }

    public int inner(int set) {
        return isSet(set) ? closed.innerOf(set) : NONE;
    }

    public int hull(int set) {
        return isSet(set) ? closed.hullOf(set) : NONE;
    }

    public int trace(int set, int k) {
        if (!isSet(set) || k < NONE) {
            return NONE;
        }
        cut.take(set);
        if (k == NONE) {
            return cut.pieces.size;
        }
        return k < cut.pieces.size ? cut.pieces.at(k) : LACKS;
    }

    public int part(int point, boolean with, int what) {
        if (!isPoint(point)) {
            return NONE;
        }
        switch (what) {
            case 0:
                return closed.countPart(point, with);
            case 1:
                return closed.unionOfPart(point, with);
            case 2:
                return closed.commonOfPart(point, with);
            case 3:
                return bit(closed.isPartClosed(point, with));
            default:
                return NONE;
        }
    }

    public int covers(int a, int b) {
        if (!isMember(a) || !isMember(b)) {
            return NONE;
        }
        return bit(closed.isCover(closed.members.at(a), closed.members.at(b)));
    }

    public int degree(int k, boolean above) {
        return isMember(k) ? order.coversOf(k, above) : NONE;
    }

    public int single() {
        return order.coveredOnce();
    }

    public int both(int a, int b, int what) {
        if (!isMember(a) || !isMember(b)) {
            return NONE;
        }
        int one = closed.members.at(a);
        int two = closed.members.at(b);
        switch (what) {
            case 0:
                return closed.numberOf(one | two);
            case 1:
                return closed.numberOf(closed.innerOf(one & two));
            default:
                return NONE;
        }
    }

    public int unshared() {
        int size = closed.members.size;
        if (size > MOST_SHARED) {
            return LACKS;
        }
        for (int a = 0; a < size; a++) {
            for (int b = 0; b < size; b++) {
                for (int c = 0; c < size; c++) {
                    if (!closed.sharesOut(closed.members.at(a), closed.members.at(b), closed.members.at(c))) {
                        return 10000 * a + 100 * b + c;
                    }
                }
            }
        }
        return LACKS;
    }

    public int chain(int k) {
        return order.stepOfLongest(k);
    }

    public int common(int point, int other) {
        if (!isPoint(point) || !isPoint(other)) {
            return NONE;
        }
        return closed.countAround((1 << point) | (1 << other));
    }

    public int ranked(int k) {
        return closed.pointRanked(k);
    }

    public int nested(int set, boolean above) {
        if (!isSet(set)) {
            return NONE;
        }
        return above ? closed.countAround(set) : closed.countWithin(set);
    }

    public int crossing() {
        return bit(closed.hasAllIntersections());
    }

    public int parts() {
        return closed.countParts();
    }

    public int shattered(int set) {
        return isSet(set) ? bit(cut.isShattered(set)) : NONE;
    }

    public int fewest(int set) {
        return isSet(set) ? closed.fewestFor(set) : NONE;
    }

    // ---- were

    public int withSet(int set) {
        return isFilledSet(set) ? closed.members.size + were.gain(set) : NONE;
    }

    public int withoutGenerator(int generator) {
        return isGenerator(generator) ? were.countUnions(now.generators, generator) : NONE;
    }

    public int gentlest() {
        return were.leastGain();
    }

    public int spoiler() {
        return were.leastFrequent();
    }

    public int proof() {
        int rows = 1;
        for (int p = 0; p < now.points; p++) {
            rows *= TRIAL_WEIGHTS;
        }
        int best = LACKS;
        int bestSum = FAR;
        // Rows rise in their order, so the first of the least sum is kept.
        for (int row = 1; row < rows; row++) {
            int sum = fillTrial(row);
            if (sum < bestSum && closed.isProof(trial)) {
                bestSum = sum;
                best = trialDigits();
            }
        }
        return best;
    }

    // ---- the list

    public int listed(int i) {
        return now.told.at(i);
    }

    public int refused(int what) {
        if (what < 0 || what > 2) {
            return NONE;
        }
        for (int i = 0; i < now.told.size; i++) {
            for (int j = i + 1; j < now.told.size; j++) {
                int union = now.told.at(i) | now.told.at(j);
                if (now.told.find(union) == NONE) {
                    return what == 0 ? i : what == 1 ? j : union;
                }
            }
        }
        return LACKS;
    }

    public int needs() {
        // The union of none is counted among unions, but the empty set is never told.
        return were.countUnions(now.told, NONE) - 1 - now.told.size;
    }

    // ---- texts

    public int spell(int i) {
        if (i < NONE) {
            return NONE;
        }
        speller.write(now);
        if (i == NONE) {
            return speller.out.size;
        }
        return i < speller.out.size ? speller.out.at(i) : LACKS;
    }

    public int count(int what) {
        switch (what) {
            case 0:
                return now.points;
            case 1:
                return now.generators.size;
            case 2:
                return now.told.size;
            case 3:
                return history.size;
            case 4:
                return tape.size;
            case 5:
                return idleGenerators();
            case 6:
                return now.massOf((1 << now.points) - 1);
            default:
                return NONE;
        }
    }

    // ---- helpers

    private boolean isSet(int set) {
        return set >= 0 && set < (1 << now.points);
    }

    private boolean isFilledSet(int set) {
        return set != 0 && isSet(set);
    }

    private boolean isPoint(int point) {
        return point >= 0 && point < now.points;
    }

    private boolean isGenerator(int generator) {
        return generator >= 0 && generator < now.generators.size;
    }

    private boolean isMember(int k) {
        return k >= 0 && k < closed.members.size;
    }

    private boolean isIdle(int generator) {
        return closed.base.find(now.generators.at(generator)) == NONE;
    }

    private int idleGenerators() {
        int idle = 0;
        for (int g = 0; g < now.generators.size; g++) {
            if (isIdle(g)) {
                idle++;
            }
        }
        return idle;
    }

    private int generatorsWith(int point) {
        int found = 0;
        for (int g = 0; g < now.generators.size; g++) {
            found += (now.generators.at(g) >> point) & 1;
        }
        return found;
    }

    /** Makes the state that was prepared in next the present one, as an act that can be undone. */
    private void settle() {
        history.push(now);
        now.copy(next);
        refresh();
    }

    private int settleChanged(int changed) {
        if (changed == 0) {
            return NONE;
        }
        settle();
        return changed;
    }

    private int replaceGenerators(Row sets) {
        if (sets.size > MOST_GENERATORS || now.generators.isSame(sets)) {
            return NONE;
        }
        next.copy(now);
        next.generators.copy(sets);
        settle();
        return now.generators.size;
    }

    private void refresh() {
        closed.rebuild(now.points, now.generators);
        order.forget();
        antichain.forget();
    }

    private int fillTrial(int row) {
        int sum = 0;
        int left = row;
        for (int p = Math.min(now.points, trial.length) - 1; p >= 0; p--) {
            trial[p] = left % TRIAL_WEIGHTS;
            left /= TRIAL_WEIGHTS;
            sum += trial[p];
        }
        return sum;
    }

    private int trialDigits() {
        int digits = 0;
        for (int p = 0; p < now.points && p < trial.length; p++) {
            digits = 10 * digits + trial[p];
        }
        return digits;
    }

    private static int bit(boolean holds) {
        return holds ? 1 : 0;
    }

    private static int exchanged(int set, int point, int other) {
        boolean same = ((set >> point) & 1) == ((set >> other) & 1);
        return same ? set : set ^ (1 << point) ^ (1 << other);
    }

    private static int rotated(int set, int points) {
        int last = (set >> (points - 1)) & 1;
        return ((set << 1) & ((1 << points) - 1)) | last;
    }

    private static int commonDivisor(int a, int b) {
        int great = a;
        int small = b;
        // Euclid's rests at least halve in two steps: 64 are enough for ints.
        for (int step = 0; step < 64 && small != 0; step++) {
            int rest = great % small;
            great = small;
            small = rest;
        }
        return great;
    }

    /** Numbers in a room that is made once: sets, or bytes of a text. */
    private static final class Row {
        final int[] items;
        int size;

        Row(int room) {
            items = new int[Math.max(room, 0)];
            size = 0;
        }

        int at(int i) {
            return i >= 0 && i < size && i < items.length ? items[i] : NONE;
        }

        int find(int item) {
            for (int i = 0; i < size && i < items.length; i++) {
                if (items[i] == item) {
                    return i;
                }
            }
            return NONE;
        }

        void append(int item) {
            if (size >= 0 && size < items.length) {
                items[size] = item;
                size++;
            }
        }

        void appendBytes(int word) {
            for (int shift = 24; shift >= 0; shift -= 8) {
                append((word >>> shift) & 255);
            }
        }

        void replace(int i, int item) {
            if (i >= 0 && i < size && i < items.length) {
                items[i] = item;
            }
        }

        void cutOut(int i) {
            if (i < 0 || i >= size) {
                return;
            }
            for (int k = i; k + 1 < size; k++) {
                replace(k, at(k + 1));
            }
            size--;
        }

        void clear() {
            size = 0;
        }

        void copy(Row other) {
            size = 0;
            for (int i = 0; i < other.size; i++) {
                append(other.at(i));
            }
        }

        boolean isSame(Row other) {
            if (size != other.size) {
                return false;
            }
            for (int i = 0; i < size; i++) {
                if (at(i) != other.at(i)) {
                    return false;
                }
            }
            return true;
        }
    }

    /** What acts change and undo brings back. */
    private static final class State {
        final Row generators;
        final Row told;
        final int[] weights;
        int points;

        State() {
            generators = new Row(MOST_GENERATORS);
            told = new Row(MOST_LISTED);
            weights = new int[MOST_POINTS];
            Arrays.fill(weights, 1);
            points = POINTS_AT_FIRST;
        }

        void reset() {
            generators.clear();
            told.clear();
            Arrays.fill(weights, 1);
            points = POINTS_AT_FIRST;
        }

        void copy(State other) {
            generators.copy(other.generators);
            told.copy(other.told);
            for (int p = 0; p < weights.length; p++) {
                weights[p] = other.weightOf(p);
            }
            points = other.points;
        }

        void keepList(Row list) {
            told.clear();
            for (int i = 0; i < list.size; i++) {
                if (list.at(i) >= (1 << points)) {
                    return;
                }
            }
            told.copy(list);
        }

        int weightOf(int point) {
            return point >= 0 && point < weights.length ? weights[point] : 0;
        }

        void setWeight(int point, int weight) {
            if (point >= 0 && point < weights.length) {
                weights[point] = weight;
            }
        }

        int massOf(int set) {
            int sum = 0;
            for (int p = 0; p < weights.length; p++) {
                if (((set >> p) & 1) == 1) {
                    sum += weights[p];
                }
            }
            return sum;
        }
    }

    /** The states ahead of the latest acts, in a ring. */
    private static final class History {
        final State[] past;
        int oldest;
        int size;

        History() {
            past = new State[MOST_ACTS];
            for (int i = 0; i < past.length; i++) {
                past[i] = new State();
            }
            oldest = 0;
            size = 0;
        }

        void clear() {
            size = 0;
        }

        void push(State state) {
            State slot = past[Math.floorMod(oldest + size, MOST_ACTS)];
            if (slot != null) {
                slot.copy(state);
            }
            if (size < MOST_ACTS) {
                size++;
            } else {
                oldest = Math.floorMod(oldest + 1, MOST_ACTS);
            }
        }

        void pop(State into) {
            if (size <= 0) {
                return;
            }
            size--;
            State slot = past[Math.floorMod(oldest + size, MOST_ACTS)];
            if (slot != null) {
                into.copy(slot);
            }
        }
    }

    /** Reads a text; stops at its first fault. */
    private static final class Reader {
        final Row tape;
        final State into;
        int pos;
        int fault;

        Reader(Row source, State target) {
            tape = source;
            into = target;
            pos = 0;
            fault = NONE;
        }

        /** The place of the fault, or NONE. */
        int read() {
            pos = 0;
            fault = NONE;
            into.reset();
            skipGap();
            boolean first = true;
            // Each clause without a fault moves on, so no more of them than bytes.
            for (int clause = 0; clause < TAPE_ROOM && fault == NONE && pos < tape.size; clause++) {
                readClause(first);
                first = false;
                skipGap();
            }
            return fault;
        }

        void readClause(boolean first) {
            int start = pos;
            int end = lettersEnd(start);
            pos = end;
            if (isWord(start, end, POINTS_WORD) && first) {
                readPoints();
            } else if (isWord(start, end, WEIGHT_WORD)) {
                readWeight();
            } else if (isWord(start, end, SET_WORD) && into.generators.size < MOST_GENERATORS) {
                readSet();
            } else {
                fail(start);
            }
            expectEnd();
        }

        void readPoints() {
            expectGap();
            into.points = readDigit(1, MOST_POINTS);
        }

        void readWeight() {
            expectGap();
            int start = pos;
            int end = lettersEnd(start);
            int point = tape.at(start) - 'a';
            if (end != start + 1 || point >= into.points) {
                fail(start);
            }
            pos = end;
            expectGap();
            into.setWeight(point, readDigit(0, MOST_WEIGHT));
        }

        void readSet() {
            expectGap();
            int start = pos;
            int end = lettersEnd(start);
            int set = 0;
            for (int i = start; i < end; i++) {
                int point = tape.at(i) - 'a';
                if (point >= into.points || ((set >> point) & 1) == 1) {
                    fail(start);
                } else {
                    set |= 1 << point;
                }
            }
            if (set == 0 || into.generators.find(set) != NONE) {
                fail(start);
            }
            pos = end;
            into.generators.append(set);
        }

        int readDigit(int low, int high) {
            int digit = tape.at(pos) - '0';
            if (digit < low || digit > high) {
                fail(pos);
                return low;
            }
            pos++;
            return digit;
        }

        /** Between two words, or a word and a digit: else the second one can't stand there. */
        void expectGap() {
            if (!isBlank(tape.at(pos))) {
                fail(pos);
            }
            skipGap();
        }

        void expectEnd() {
            skipGap();
            if (tape.at(pos) != ';') {
                fail(pos);
            }
            pos++;
        }

        void skipGap() {
            while (pos < tape.size && isBlank(tape.at(pos))) {
                pos++;
            }
        }

        int lettersEnd(int from) {
            int end = from;
            while (end < tape.size && isLetter(tape.at(end))) {
                end++;
            }
            return end;
        }

        boolean isWord(int start, int end, String word) {
            if (end - start != word.length()) {
                return false;
            }
            for (int i = 0; i < word.length(); i++) {
                if (tape.at(start + i) != word.charAt(i)) {
                    return false;
                }
            }
            return true;
        }

        /** Only the first fault counts: reading goes on to the end of its clause. */
        void fail(int at) {
            if (fault == NONE) {
                fault = at;
            }
        }

        static boolean isLetter(int code) {
            return code >= 'a' && code <= 'z';
        }

        static boolean isBlank(int code) {
            return code == ' ' || code == '\n';
        }
    }

    /** Writes the state as a text that text() reads. */
    private static final class Speller {
        final Row out;

        Speller() {
            out = new Row(TAPE_ROOM);
        }

        void write(State state) {
            out.clear();
            putWord(POINTS_WORD);
            putDigit(state.points);
            for (int p = 0; p < state.points; p++) {
                if (state.weightOf(p) != 1) {
                    putWord(WEIGHT_WORD);
                    out.append('a' + p);
                    out.append(' ');
                    putDigit(state.weightOf(p));
                }
            }
            for (int g = 0; g < state.generators.size; g++) {
                putWord(SET_WORD);
                putLetters(state.generators.at(g));
            }
        }

        void putWord(String word) {
            for (int i = 0; i < word.length(); i++) {
                out.append(word.charAt(i));
            }
            out.append(' ');
        }

        void putDigit(int digit) {
            out.append('0' + digit);
            out.append(';');
        }

        void putLetters(int set) {
            for (int p = 0; p < MOST_POINTS; p++) {
                if (((set >> p) & 1) == 1) {
                    out.append('a' + p);
                }
            }
            out.append(';');
        }
    }

    /** All unions of the generators, with what is asked often of them. */
    private static final class Family {
        final int[] inOrder;
        final Row members;
        final Row base;
        final int[] number;
        final int[] fewestUsed;
        final int[] within;
        final int[] often;
        int points;

        Family() {
            inOrder = new int[MOST_SETS];
            members = new Row(MOST_SETS);
            base = new Row(MOST_SETS);
            number = new int[MOST_SETS];
            fewestUsed = new int[MOST_SETS];
            within = new int[MOST_SETS];
            often = new int[MOST_POINTS];
            points = POINTS_AT_FIRST;
            int filled = 0;
            for (int size = 0; size <= MOST_POINTS; size++) {
                for (int set = 0; set < MOST_SETS; set++) {
                    if (Integer.bitCount(set) == size && filled < inOrder.length) {
                        inOrder[filled] = set;
                        filled++;
                    }
                }
            }
        }

        void rebuild(int pointCount, Row generators) {
            points = pointCount;
            unite(generators);
            numberMembers();
            fillWithin();
            pickBase();
            countPoints();
        }

        /** A generator taken twice changes no union, so one walk over all sets for each is enough. */
        void unite(Row generators) {
            Arrays.fill(fewestUsed, LACKS);
            fewestUsed[0] = 0;
            for (int g = 0; g < generators.size; g++) {
                for (int set = 0; set < fewestUsed.length; set++) {
                    int union = set | generators.at(g);
                    if (fewestUsed[set] >= 0 && union >= 0 && union < fewestUsed.length
                            && (fewestUsed[union] < 0 || fewestUsed[union] > fewestUsed[set] + 1)) {
                        fewestUsed[union] = fewestUsed[set] + 1;
                    }
                }
            }
        }

        void numberMembers() {
            members.clear();
            Arrays.fill(number, LACKS);
            for (int i = 0; i < inOrder.length; i++) {
                int set = inOrder[i];
                if (fewestFor(set) >= 0 && set >= 0 && set < number.length) {
                    number[set] = members.size;
                    members.append(set);
                }
            }
        }

        void fillWithin() {
            for (int set = 0; set < within.length; set++) {
                within[set] = numberOf(set) >= 0 ? set : unionBelow(set);
            }
        }

        /** The union of all members within a set, but for itself: each of these lacks one of its points. */
        int unionBelow(int set) {
            int union = 0;
            for (int p = 0; p < MOST_POINTS; p++) {
                int lesser = set & ~(1 << p);
                if (lesser != set && lesser >= 0 && lesser < within.length) {
                    union |= within[lesser];
                }
            }
            return union;
        }

        void pickBase() {
            base.clear();
            for (int k = 1; k < members.size; k++) {
                int set = members.at(k);
                if (unionBelow(set) != set) {
                    base.append(set);
                }
            }
        }

        void countPoints() {
            for (int p = 0; p < often.length; p++) {
                often[p] = countAround(1 << p);
            }
        }

        int numberOf(int set) {
            return set >= 0 && set < number.length ? number[set] : LACKS;
        }

        int innerOf(int set) {
            return set >= 0 && set < within.length ? within[set] : 0;
        }

        int fewestFor(int set) {
            return set >= 0 && set < fewestUsed.length ? fewestUsed[set] : LACKS;
        }

        int oftenOf(int point) {
            return point >= 0 && point < often.length ? often[point] : 0;
        }

        int orderedSet(int i) {
            return i >= 0 && i < inOrder.length ? inOrder[i] : 0;
        }

        int allPoints() {
            return (1 << points) - 1;
        }

        int top() {
            return members.at(members.size - 1);
        }

        boolean isFrequent(int point) {
            return 2 * oftenOf(point) >= members.size;
        }

        int frequentPoints() {
            int found = 0;
            for (int p = 0; p < points; p++) {
                if (isFrequent(p)) {
                    found |= 1 << p;
                }
            }
            return found;
        }

        int pointRanked(int k) {
            for (int p = 0; p < points; p++) {
                if (rankOf(p) == k) {
                    return p;
                }
            }
            return NONE;
        }

        int rankOf(int point) {
            int ahead = 0;
            for (int p = 0; p < points; p++) {
                boolean alike = oftenOf(p) == oftenOf(point);
                if (oftenOf(p) > oftenOf(point) || (alike && p < point)) {
                    ahead++;
                }
            }
            return ahead;
        }

        /** Two points are in the same members, if all members of each have both. */
        int firstTwin(int point) {
            int own = oftenOf(point);
            for (int p = 0; p < points; p++) {
                if (p != point && own > 0 && oftenOf(p) == own && countAround((1 << p) | (1 << point)) == own) {
                    return p;
                }
            }
            return LACKS;
        }

        int leastSizeWith(int point) {
            for (int k = 0; k < members.size; k++) {
                if (((members.at(k) >> point) & 1) == 1) {
                    return Integer.bitCount(members.at(k));
                }
            }
            return LACKS;
        }

        int sizeOfAll() {
            int sum = 0;
            for (int p = 0; p < points; p++) {
                sum += oftenOf(p);
            }
            return sum;
        }

        /** Each point brings its weight once for each member that it is in. */
        int massOfAll(int[] weights) {
            int sum = 0;
            for (int p = 0; p < points && p < weights.length; p++) {
                sum += weights[p] * oftenOf(p);
            }
            return sum;
        }

        boolean isProof(int[] weights) {
            int most = 0;
            for (int p = 0; p < points && p < weights.length; p++) {
                if (((top() >> p) & 1) == 1) {
                    most += weights[p];
                }
            }
            return most > 0 && 2 * massOfAll(weights) >= most * members.size;
        }

        int hullOf(int set) {
            int common = allPoints();
            for (int k = 0; k < members.size; k++) {
                int member = members.at(k);
                if ((member & set) == set) {
                    common &= member;
                }
            }
            return common;
        }

        int countAround(int set) {
            int found = 0;
            for (int k = 0; k < members.size; k++) {
                if ((members.at(k) & set) == set) {
                    found++;
                }
            }
            return found;
        }

        int countWithin(int set) {
            int found = 0;
            for (int k = 0; k < members.size; k++) {
                if ((members.at(k) & ~set) == 0) {
                    found++;
                }
            }
            return found;
        }

        boolean isInPart(int k, int point, boolean with) {
            return (((members.at(k) >> point) & 1) == 1) == with;
        }

        int countPart(int point, boolean with) {
            return with ? oftenOf(point) : members.size - oftenOf(point);
        }

        int unionOfPart(int point, boolean with) {
            int union = 0;
            for (int k = 0; k < members.size; k++) {
                if (isInPart(k, point, with)) {
                    union |= members.at(k);
                }
            }
            return countPart(point, with) == 0 ? LACKS : union;
        }

        int commonOfPart(int point, boolean with) {
            int common = allPoints();
            for (int k = 0; k < members.size; k++) {
                if (isInPart(k, point, with)) {
                    common &= members.at(k);
                }
            }
            return countPart(point, with) == 0 ? LACKS : common;
        }

        boolean isPartClosed(int point, boolean with) {
            for (int a = 0; a < members.size; a++) {
                for (int b = a + 1; b < members.size; b++) {
                    boolean bothIn = isInPart(a, point, with) && isInPart(b, point, with);
                    if (bothIn && !isInPart(numberOf(members.at(a) | members.at(b)), point, with)) {
                        return false;
                    }
                }
            }
            return true;
        }

        /** What lies between has a set of the base that low has not: with it, low must be high already. */
        boolean isCover(int high, int low) {
            if (high == low || (high & low) != low) {
                return false;
            }
            for (int i = 0; i < base.size; i++) {
                int set = base.at(i);
                boolean steps = (set & ~high) == 0 && (set & ~low) != 0;
                if (steps && (low | set) != high) {
                    return false;
                }
            }
            return true;
        }

        boolean sharesOut(int a, int b, int c) {
            return innerOf(a & (b | c)) == (innerOf(a & b) | innerOf(a & c));
        }

        boolean hasAllIntersections() {
            for (int a = 0; a < members.size; a++) {
                for (int b = a + 1; b < members.size; b++) {
                    if (numberOf(members.at(a) & members.at(b)) < 0) {
                        return false;
                    }
                }
            }
            return true;
        }

        int countParts() {
            int left = top();
            int found = 0;
            for (int p = 0; p < points; p++) {
                if (((left >> p) & 1) == 1) {
                    left &= ~partOf(1 << p);
                    found++;
                }
            }
            return found;
        }

        int partOf(int start) {
            int grown = start;
            // Each round that is not the last one brings a point.
            for (int round = 0; round < MOST_POINTS; round++) {
                for (int i = 0; i < base.size; i++) {
                    if ((base.at(i) & grown) != 0) {
                        grown |= base.at(i);
                    }
                }
            }
            return grown;
        }
    }

    /** Which members cover which, and the longest rows of them; made when it is first asked. */
    private static final class Order {
        final Family closed;
        final int[] covering;
        final int[] covered;
        final int[] rise;
        boolean isMade;

        Order(Family source) {
            closed = source;
            covering = new int[MOST_SETS];
            covered = new int[MOST_SETS];
            rise = new int[MOST_SETS];
            isMade = false;
        }

        void forget() {
            isMade = false;
        }

        void make() {
            if (isMade) {
                return;
            }
            isMade = true;
            Arrays.fill(covering, 0);
            Arrays.fill(covered, 0);
            Arrays.fill(rise, 0);
            int size = Math.min(closed.members.size, MOST_SETS);
            // Members rise in size, so what covers one comes behind it.
            for (int low = size - 1; low >= 0; low--) {
                for (int high = low + 1; high < size; high++) {
                    if (closed.isCover(closed.members.at(high), closed.members.at(low))) {
                        covering[low]++;
                        covered[high]++;
                        rise[low] = Math.max(rise[low], rise[high] + 1);
                    }
                }
            }
        }

        /** How many cover the k-th member (above), or are covered by it. */
        int coversOf(int k, boolean above) {
            make();
            if (k < 0 || k >= closed.members.size || k >= MOST_SETS) {
                return NONE;
            }
            return above ? covering[k] : covered[k];
        }

        int riseOf(int k) {
            return k >= 0 && k < rise.length ? rise[k] : 0;
        }

        int height() {
            make();
            return riseOf(0);
        }

        int pairs() {
            make();
            int sum = 0;
            for (int k = 0; k < covering.length; k++) {
                sum += covering[k];
            }
            return sum;
        }

        int coveredOnce() {
            make();
            int found = 0;
            for (int k = 0; k + 1 < closed.members.size && k < covering.length; k++) {
                if (covering[k] == 1) {
                    found++;
                }
            }
            return found;
        }

        int stepOfLongest(int k) {
            make();
            if (k < 0 || k > riseOf(0)) {
                return NONE;
            }
            int step = 0;
            for (int i = 0; i < k && i < MOST_POINTS; i++) {
                step = firstStepUp(step);
            }
            return step;
        }

        /** The first one that covers it and from which the row can be as long as it must. */
        int firstStepUp(int low) {
            for (int high = low + 1; high < closed.members.size; high++) {
                boolean longest = riseOf(high) + 1 == riseOf(low);
                if (longest && closed.isCover(closed.members.at(high), closed.members.at(low))) {
                    return high;
                }
            }
            return low;
        }
    }

    /**
     * The most members of which none is within another one: all members less the most pairs
     * that can be matched, each member at most once as the lesser and once as the greater one.
     */
    private static final class Spread {
        final Row members;
        final int[] greater;
        final int[] lesser;
        final int[] reachedFrom;
        final int[] queue;
        int answer;

        Spread(Row source) {
            members = source;
            greater = new int[MOST_SETS];
            lesser = new int[MOST_SETS];
            reachedFrom = new int[MOST_SETS];
            queue = new int[MOST_SETS];
            answer = NONE;
        }

        void forget() {
            answer = NONE;
        }

        int most() {
            if (answer == NONE) {
                answer = members.size - matchAll();
            }
            return answer;
        }

        int matchAll() {
            Arrays.fill(greater, NONE);
            Arrays.fill(lesser, NONE);
            int matched = 0;
            for (int k = 0; k < members.size; k++) {
                int end = searchFrom(k);
                if (end != NONE) {
                    turnPath(end);
                    matched++;
                }
            }
            return matched;
        }

        /** The greater member, not yet matched, at which a path from a lesser one ends; NONE: there is no path. */
        int searchFrom(int start) {
            Arrays.fill(reachedFrom, NONE);
            int filled = 1;
            queue[0] = start;
            for (int head = 0; head < filled && head < queue.length; head++) {
                int low = queue[head];
                for (int high = low + 1; high < members.size && high < lesser.length; high++) {
                    if (high >= 0 && reachedFrom[high] == NONE && isInside(low, high)) {
                        reachedFrom[high] = low;
                        if (lesser[high] == NONE) {
                            return high;
                        }
                        if (filled < queue.length) {
                            queue[filled] = lesser[high];
                            filled++;
                        }
                    }
                }
            }
            return NONE;
        }

        boolean isInside(int low, int high) {
            return (members.at(low) & ~members.at(high)) == 0;
        }

        void turnPath(int end) {
            int high = end;
            for (int step = 0; step < MOST_SETS && high >= 0 && high < reachedFrom.length; step++) {
                int low = reachedFrom[high];
                if (low < 0 || low >= greater.length) {
                    return;
                }
                int freed = greater[low];
                greater[low] = high;
                lesser[high] = low;
                high = freed;
            }
        }
    }

    /** What members have in a set. */
    private static final class Trace {
        final Family closed;
        final Row pieces;
        final int[] found;

        Trace(Family source) {
            closed = source;
            pieces = new Row(MOST_SETS);
            found = new int[MOST_SETS];
        }

        int mark(int set) {
            Arrays.fill(found, 0);
            int unlike = 0;
            for (int k = 0; k < closed.members.size; k++) {
                int piece = closed.members.at(k) & set;
                if (piece >= 0 && piece < found.length && found[piece] == 0) {
                    found[piece] = 1;
                    unlike++;
                }
            }
            return unlike;
        }

        void take(int set) {
            mark(set);
            pieces.clear();
            for (int i = 0; i < MOST_SETS; i++) {
                int piece = closed.orderedSet(i);
                if (piece < found.length && piece >= 0 && found[piece] == 1) {
                    pieces.append(piece);
                }
            }
        }

        boolean isShattered(int set) {
            return mark(set) == 1 << Integer.bitCount(set);
        }

        int depth() {
            int best = 0;
            for (int set = 0; set <= closed.allPoints(); set++) {
                int size = Integer.bitCount(set);
                if (size > best && isShattered(set)) {
                    best = size;
                }
            }
            return best;
        }
    }

    /** What would be with one set more, or one less. */
    private static final class Were {
        final Family closed;
        final int[] found;
        final int[] extra;

        Were(Family source) {
            closed = source;
            found = new int[MOST_SETS];
            extra = new int[MOST_POINTS];
        }

        /** How many unions some sets have, that of none too; the one at the place skipped is not there. */
        int countUnions(Row sets, int skipped) {
            Arrays.fill(found, 0);
            found[0] = 1;
            int unions = 1;
            for (int i = 0; i < sets.size; i++) {
                for (int set = 0; set < found.length && i != skipped; set++) {
                    int union = set | sets.at(i);
                    if (found[set] == 1 && union >= 0 && union < found.length && found[union] == 0) {
                        found[union] = 1;
                        unions++;
                    }
                }
            }
            return unions;
        }

        /** How many members more there would be; extra tells in how many of these each point is. */
        int gain(int set) {
            Arrays.fill(found, 0);
            Arrays.fill(extra, 0);
            int more = 0;
            for (int k = 0; k < closed.members.size; k++) {
                int union = closed.members.at(k) | set;
                boolean isNew = closed.numberOf(union) < 0;
                if (isNew && union >= 0 && union < found.length && found[union] == 0) {
                    found[union] = 1;
                    more++;
                    addPoints(union);
                }
            }
            return more;
        }

        void addPoints(int set) {
            for (int p = 0; p < extra.length; p++) {
                extra[p] += (set >> p) & 1;
            }
        }

        int leastGain() {
            int best = LACKS;
            int least = FAR;
            for (int i = 1; i < MOST_SETS; i++) {
                int set = closed.orderedSet(i);
                if (set <= closed.allPoints() && closed.numberOf(set) < 0) {
                    int more = gain(set);
                    if (more < least) {
                        least = more;
                        best = set;
                    }
                }
            }
            return best;
        }

        int leastFrequent() {
            int best = LACKS;
            int least = FAR;
            for (int i = 1; i < MOST_SETS; i++) {
                int set = closed.orderedSet(i);
                if (set <= closed.allPoints()) {
                    int frequent = countFrequentWith(set);
                    if (frequent < least) {
                        least = frequent;
                        best = set;
                    }
                }
            }
            return best;
        }

        int countFrequentWith(int set) {
            int size = closed.members.size + gain(set);
            int frequent = 0;
            for (int p = 0; p < closed.points && p < extra.length; p++) {
                if (2 * (closed.oftenOf(p) + extra[p]) >= size) {
                    frequent++;
                }
            }
            return frequent;
        }
    }
}
