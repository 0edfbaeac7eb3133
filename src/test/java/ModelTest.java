import java.util.ArrayDeque;
import java.util.ArrayList;
import java.util.Arrays;
import java.util.Comparator;
import java.util.Deque;
import java.util.HashMap;
import java.util.HashSet;
import java.util.List;
import java.util.Map;
import java.util.Random;
import java.util.Set;
import java.util.TreeSet;

/** Long runs of calls, by a fixed seed, on the class and on a slow model that follows the document's words. */
public final class ModelTest {
    private static final int RUNS = 260;
    private static final int CALLS = 510;
    private static int wrong = 0;
    private static long asked = 0;

    public static void main(String[] args) {
        for (int run = 0; run < RUNS && wrong < 20; run++) {
            new Run(run).go();
        }
        faultsOfTexts();
        System.out.println(asked + " answers compared, " + wrong + " are wrong");
        if (wrong != 0) {
            System.exit(1);
        }
    }

    /** Short texts of few kinds of bytes, so that each kind of fault comes often. */
    private static void faultsOfTexts() {
        Random random = new Random(77);
        String[] bits = {"points", "weight", "set", "a", "b", "ab", "ba", "e", "aa", "3", "7", "0", "8", "12", ";", ";", ";",
            " ", " ", " ", "\n", "x", "A", "points 3;", "points 5;", "set e;", "weight b 3;", "set b;", "se", "\t", "set ab ;"};
        for (int i = 0; i < 20000 && wrong < 20; i++) {
            StringBuilder told = new StringBuilder();
            int size = random.nextInt(12);
            for (int k = 0; k < size; k++) {
                told.append(bits[random.nextInt(bits.length)]);
                if (random.nextInt(3) == 0) {
                    told.append(' ');
                }
            }
            UnionFamilies x = new UnionFamilies();
            Model m = new Model();
            tellBoth(x, m, told.toString());
            compare("text of '" + told + "'", x.text(), m.text(), null);
            compare("spell of '" + told + "'", spelled(x).equals(m.spelled()) ? 1 : 0, 1, null);
        }
    }

    static void tellBoth(UnionFamilies x, Model m, String told) {
        byte[] bytes = new byte[(told.length() + 19) / 20 * 20];
        for (int i = 0; i < told.length(); i++) {
            bytes[i] = (byte) told.charAt(i);
        }
        for (int i = 0; i + 19 < bytes.length; i += 20) {
            int[] w = new int[5];
            for (int k = 0; k < 20; k++) {
                w[k / 4] = (w[k / 4] << 8) | (bytes[i + k] & 255);
            }
            compare("feed", x.feed(w[0], w[1], w[2], w[3], w[4]), m.feed(w), null);
        }
        int tail = bytes.length - told.length();
        compare("back", x.back(tail), m.back(tail), null);
    }

    static String spelled(UnionFamilies x) {
        StringBuilder out = new StringBuilder();
        int size = x.spell(-1);
        for (int i = 0; i < size; i++) {
            out.append((char) x.spell(i));
        }
        return out.toString();
    }

    static void compare(String call, long got, long due, Run run) {
        asked++;
        if (got != due && wrong < 20) {
            wrong++;
            System.out.println(call + " answered " + got + ", due is " + due + (run == null ? "" : " in run " + run.seed + " at " + run.model));
        }
    }

    /** One object and its model through one run. */
    static final class Run {
        final int seed;
        final Random random;
        final UnionFamilies x = new UnionFamilies();
        final Model model = new Model();

        Run(int seed) {
            this.seed = seed;
            this.random = new Random(1000 + seed);
        }

        void go() {
            tellText();
            for (int call = 0; call < CALLS / 3 && wrong < 20; call++) {
                if (random.nextInt(60) == 0) {
                    tellText();
                } else if (random.nextInt(3) == 0) {
                    act();
                } else {
                    ask();
                }
            }
            askAll();
        }

        void tellText() {
            StringBuilder told = new StringBuilder();
            int n = seed % 3 == 0 ? 3 + random.nextInt(3) : 1 + random.nextInt(7);
            if (random.nextInt(5) != 0) {
                told.append("points ").append(n).append(";");
            } else {
                n = 4;
            }
            int sets = random.nextInt(13);
            Set<Integer> used = new HashSet<>();
            for (int i = 0; i < sets; i++) {
                int set = 1 + random.nextInt((1 << n) - 1);
                if (random.nextBoolean()) {
                    set = Math.max(1, set & random.nextInt(1 << n));
                }
                if (used.add(set) || random.nextInt(40) == 0) {
                    told.append(random.nextInt(4) == 0 ? "\nset  " : "set ").append(Model.letters(set)).append(";");
                }
                if (random.nextInt(6) == 0) {
                    told.append("weight ").append((char) ('a' + random.nextInt(n))).append(' ').append(random.nextInt(10)).append(";");
                }
            }
            if (random.nextInt(15) == 0) {
                told.setLength(random.nextInt(told.length() + 1));
            }
            if (told.length() > 280) {
                told.setLength(280);
            }
            compare("back", x.back(model.tape.size()), model.back(model.tape.size()), this);
            tellBoth(x, model, told.toString());
            compare("text", x.text(), model.text(), this);
        }

        int set() {
            int r = random.nextInt(20);
            if (r == 0) {
                return random.nextInt(4) == 0 ? random.nextInt() : -1 - random.nextInt(3);
            }
            if (r == 1) {
                return 1 << model.n;
            }
            if (r == 2) {
                return 0;
            }
            return random.nextInt(1 << model.n);
        }

        int point() {
            return random.nextInt(12) == 0 ? (random.nextBoolean() ? -1 : 7) : random.nextInt(model.n + (random.nextInt(8) == 0 ? 1 : 0));
        }

        int index(int size) {
            int r = random.nextInt(12);
            return r == 0 ? -1 - random.nextInt(2) : r == 1 ? size + random.nextInt(2) : random.nextInt(Math.max(1, size));
        }

        void act() {
            int a;
            int b;
            switch (random.nextInt(15)) {
                case 0: case 1: a = set(); compare("generate " + a, x.generate(a), model.generate(a), this); break;
                case 2: a = index(model.gens.size()); compare("drop " + a, x.drop(a) ? 1 : 0, model.drop(a) ? 1 : 0, this); break;
                case 3: a = index(model.gens.size()); b = set(); compare("change " + a + " " + b, x.change(a, b), model.change(a, b), this); break;
                case 4: a = point(); b = random.nextInt(12) - 1; compare("weigh " + a + " " + b, x.weigh(a, b), model.weigh(a, b), this); break;
                case 5: a = point(); b = point(); compare("swap " + a + " " + b, x.swap(a, b), model.swap(a, b), this); break;
                case 6: compare("turn", x.turn(), model.turn(), this); break;
                case 7: if (random.nextInt(3) == 0) { a = point(); compare("without " + a, x.without(a), model.without(a), this); } break;
                case 8: if (random.nextInt(2) == 0) compare("lean", x.lean(), model.lean(), this); break;
                case 9: if (random.nextInt(2) == 0) compare("basis", x.basis(), model.basis(), this); break;
                case 10: case 11: a = set(); compare("list " + a, x.list(a), model.list(a), this); break;
                case 12: a = index(model.list.size()); compare("strike " + a, x.strike(a), model.strike(a), this); break;
                case 13: if (random.nextInt(3) == 0) compare("adopt", x.adopt(), model.adopt(), this); break;
                default:
                    int times = 1 + random.nextInt(random.nextInt(10) == 0 ? 14 : 2);
                    for (int i = 0; i < times; i++) compare("undo", x.undo(), model.undo(), this);
                    break;
            }
        }

        void ask() {
            int size = model.members().size();
            int a = set();
            int p = point();
            int q = point();
            int k = index(size);
            int l = index(size);
            boolean yes = random.nextBoolean();
            int what;
            switch (random.nextInt(36)) {
                case 0: what = random.nextInt(5) - 1; k = index(model.gens.size()); compare("generator " + k + " " + what, x.generator(k, what), model.generator(k, what), this); break;
                case 1: compare("member " + k, x.member(k), model.member(k), this); break;
                case 2: compare("place " + a, x.place(a), model.place(a), this); break;
                case 3: k = index(model.base().size()); compare("based " + k, x.based(k), model.based(k), this); break;
                case 4: what = random.nextInt(8) - 1; compare("point " + p + " " + what, x.point(p, what), model.point(p, what), this); break;
                case 5: case 6: case 7: what = random.nextInt(15) - 1; compare("family " + what, x.family(what), model.family(what), this); break;
                case 8: what = random.nextInt(10) - 1; compare("sized " + what, x.sized(what), model.sized(what), this); break;
                case 9: what = random.nextInt(4) - 1; compare("mean " + what + yes, x.mean(what, yes), model.mean(what, yes), this); break;
                case 10: compare("mass " + a, x.mass(a), model.mass(a), this); break;
                case 11: compare("inner " + a, x.inner(a), model.inner(a), this); break;
                case 12: compare("hull " + a, x.hull(a), model.hull(a), this); break;
                case 13: k = random.nextInt(14) - 2; compare("trace " + a + " " + k, x.trace(a, k), model.trace(a, k), this); break;
                case 14: what = random.nextInt(6) - 1; compare("part " + p + yes + what, x.part(p, yes, what), model.part(p, yes, what), this); break;
                case 15: compare("covers " + k + " " + l, x.covers(k, l), model.covers(k, l), this); break;
                case 16: compare("degree " + k + yes, x.degree(k, yes), model.degree(k, yes), this); break;
                case 17: compare("single", x.single(), model.single(), this); break;
                case 18: what = random.nextInt(4) - 1; compare("both " + k + " " + l + " " + what, x.both(k, l, what), model.both(k, l, what), this); break;
                case 19: compare("unshared", x.unshared(), model.unshared(), this); break;
                case 20: k = random.nextInt(10) - 1; compare("chain " + k, x.chain(k), model.chain(k), this); break;
                case 21: compare("common " + p + " " + q, x.common(p, q), model.common(p, q), this); break;
                case 22: k = random.nextInt(9) - 1; compare("ranked " + k, x.ranked(k), model.ranked(k), this); break;
                case 23: compare("nested " + a + yes, x.nested(a, yes), model.nested(a, yes), this); break;
                case 24: compare("crossing", x.crossing(), model.crossing(), this); break;
                case 25: compare("parts", x.parts(), model.parts(), this); break;
                case 26: compare("shattered " + a, x.shattered(a), model.shattered(a), this); break;
                case 27: compare("fewest " + a, x.fewest(a), model.fewest(a), this); break;
                case 28: compare("withSet " + a, x.withSet(a), model.withSet(a), this); break;
                case 29: k = index(model.gens.size()); compare("withoutGenerator " + k, x.withoutGenerator(k), model.withoutGenerator(k), this); break;
                case 30: compare("gentlest", x.gentlest(), model.gentlest(), this); break;
                case 31: compare("spoiler", x.spoiler(), model.spoiler(), this); break;
                case 32: compare("proof", x.proof(), model.proof(), this); break;
                case 33: k = index(model.list.size()); compare("listed " + k, x.listed(k), model.listed(k), this); break;
                case 34: what = random.nextInt(5) - 1; compare("refused " + what, x.refused(what), model.refused(what), this); break;
                default:
                    compare("needs", x.needs(), model.needs(), this);
                    what = random.nextInt(9) - 1;
                    compare("count " + what, x.count(what), model.count(what), this);
                    k = random.nextInt(240) - 2;
                    compare("spell " + k, x.spell(k), model.spell(k), this);
                    break;
            }
        }

        /** At the run's end, what tells most of the state. */
        void askAll() {
            for (int what = -1; what < 14; what++) {
                compare("family " + what, x.family(what), model.family(what), this);
            }
            for (int what = -1; what < 8; what++) {
                compare("count " + what, x.count(what), model.count(what), this);
            }
            for (int k = -1; k < 9; k++) {
                compare("chain " + k, x.chain(k), model.chain(k), this);
                compare("ranked " + k, x.ranked(k), model.ranked(k), this);
            }
            for (int i = -1; i < 21; i++) {
                compare("listed " + i, x.listed(i), model.listed(i), this);
            }
            for (int what = 0; what < 3; what++) {
                compare("refused " + what, x.refused(what), model.refused(what), this);
            }
            compare("needs", x.needs(), model.needs(), this);
            compare("proof", x.proof(), model.proof(), this);
            compare("gentlest", x.gentlest(), model.gentlest(), this);
            compare("spoiler", x.spoiler(), model.spoiler(), this);
        }
    }

    /** The document's words, one after the other, with no care for speed. */
    static final class Model {
        static final Comparator<Integer> ORDER =
            Comparator.<Integer>comparingInt(s -> Integer.bitCount(s)).thenComparingInt(s -> s);

        int n = 4;
        List<Integer> gens = new ArrayList<>();
        int[] weights = {1, 1, 1, 1, 1, 1, 1};
        List<Integer> list = new ArrayList<>();
        Deque<Object[]> acts = new ArrayDeque<>();
        List<Integer> tape = new ArrayList<>();
        private final Map<List<Integer>, List<Integer>> known = new HashMap<>();

        @Override
        public String toString() {
            return spelled() + " list " + list;
        }

        static String letters(int set) {
            StringBuilder out = new StringBuilder();
            for (int p = 0; p < 7; p++) {
                if ((set >> p & 1) != 0) {
                    out.append((char) ('a' + p));
                }
            }
            return out.toString();
        }

        // -- told

        int feed(int[] w) {
            if (tape.size() > 280) {
                return -1;
            }
            for (int word : w) {
                for (int i = 3; i >= 0; i--) {
                    tape.add(word >> (8 * i) & 255);
                }
            }
            return tape.size();
        }

        int back(int count) {
            if (count < 0 || count > tape.size()) {
                return -1;
            }
            tape = new ArrayList<>(tape.subList(0, tape.size() - count));
            return tape.size();
        }

        /** A row of tokens, each with its place, and what may come next. */
        int text() {
            StringBuilder all = new StringBuilder();
            for (int b : tape) {
                all.append((char) b);
            }
            tape = new ArrayList<>();
            String told = all.toString();
            int points = 4;
            int[] w = {1, 1, 1, 1, 1, 1, 1};
            List<Integer> sets = new ArrayList<>();
            String awaited = "word";
            String word = "";
            int clauses = 0;
            int at = 0;
            int letter = 0;
            boolean gap = true;
            while (at < told.length()) {
                char c = told.charAt(at);
                if (c == ' ' || c == '\n') {
                    gap = true;
                    at++;
                    continue;
                }
                String run = told.substring(at).replaceFirst("(?s)[^a-z].*", "");
                boolean stands = false;
                switch (awaited) {
                    case "word":
                        word = run;
                        stands = run.equals("weight") || run.equals("points") && clauses == 0 || run.equals("set") && sets.size() < 12;
                        awaited = run.equals("points") ? "number" : run.equals("weight") ? "letter" : "letters";
                        clauses++;
                        at += stands ? run.length() : 0;
                        break;
                    case "letter":
                        stands = gap && run.length() == 1 && c - 'a' < points;
                        letter = c - 'a';
                        awaited = "number";
                        at += stands ? 1 : 0;
                        break;
                    case "letters":
                        int set = 0;
                        for (char l : run.toCharArray()) {
                            set |= 1 << (l - 'a');
                        }
                        stands = gap && !run.isEmpty() && Integer.bitCount(set) == run.length() && set < 1 << points && !sets.contains(set);
                        sets.add(set);
                        awaited = "end";
                        at += stands ? run.length() : 0;
                        break;
                    case "number":
                        int digit = c - '0';
                        boolean ofPoints = word.equals("points");
                        stands = gap && c >= '0' && c <= '9' && (!ofPoints || digit >= 1 && digit <= 7);
                        if (stands && ofPoints) {
                            points = digit;
                        } else if (stands) {
                            w[letter] = digit;
                        }
                        awaited = "end";
                        at += stands ? 1 : 0;
                        break;
                    default:
                        stands = c == ';';
                        awaited = "word";
                        at += stands ? 1 : 0;
                        break;
                }
                if (!stands) {
                    return -4 - at;
                }
                gap = false;
            }
            if (!awaited.equals("word")) {
                return -4 - told.length();
            }
            n = points;
            weights = w;
            gens = sets;
            acts.clear();
            for (int s : list) {
                if (s >= 1 << n) {
                    list = new ArrayList<>();
                    break;
                }
            }
            return gens.size();
        }

        // -- acts

        void keep() {
            acts.addLast(new Object[] {new ArrayList<>(gens), weights.clone(), new ArrayList<>(list)});
            if (acts.size() > 12) {
                acts.removeFirst();
            }
        }

        boolean ok(int set) {
            return set >= 0 && set < 1 << n;
        }

        int generate(int set) {
            if (!ok(set) || set == 0 || gens.contains(set) || gens.size() == 12) {
                return -1;
            }
            keep();
            gens.add(set);
            return gens.size() - 1;
        }

        boolean drop(int g) {
            if (g < 0 || g >= gens.size()) {
                return false;
            }
            keep();
            gens.remove(g);
            return true;
        }

        int change(int g, int set) {
            if (g < 0 || g >= gens.size() || !ok(set) || set == 0 || gens.contains(set)) {
                return -1;
            }
            keep();
            return gens.set(g, set);
        }

        int weigh(int p, int weight) {
            if (p < 0 || p >= n || weight < 0 || weight > 9 || weights[p] == weight) {
                return -1;
            }
            keep();
            int old = weights[p];
            weights[p] = weight;
            return old;
        }

        int become(List<Integer> fresh) {
            int changed = 0;
            for (int i = 0; i < gens.size(); i++) {
                changed += gens.get(i).equals(fresh.get(i)) ? 0 : 1;
            }
            if (changed == 0) {
                return -1;
            }
            keep();
            gens = fresh;
            return changed;
        }

        int swap(int p, int q) {
            if (p < 0 || p >= n || q < 0 || q >= n || p == q) {
                return -1;
            }
            List<Integer> fresh = new ArrayList<>();
            for (int g : gens) {
                int out = 0;
                for (int r = 0; r < n; r++) {
                    if ((g >> r & 1) != 0) {
                        out |= 1 << (r == p ? q : r == q ? p : r);
                    }
                }
                fresh.add(out);
            }
            return become(fresh);
        }

        int turn() {
            List<Integer> fresh = new ArrayList<>();
            for (int g : gens) {
                int out = 0;
                for (int r = 0; r < n; r++) {
                    if ((g >> r & 1) != 0) {
                        out |= 1 << ((r + 1) % n);
                    }
                }
                fresh.add(out);
            }
            return become(fresh);
        }

        int without(int p) {
            if (p < 0 || p >= n || gens.stream().noneMatch(g -> (g >> p & 1) != 0)) {
                return -1;
            }
            keep();
            List<Integer> fresh = new ArrayList<>();
            for (int g : gens) {
                int left = g & ~(1 << p);
                if (left != 0 && !fresh.contains(left)) {
                    fresh.add(left);
                }
            }
            gens = fresh;
            return gens.size();
        }

        int lean() {
            int idle = count(5);
            if (idle == 0) {
                return -1;
            }
            keep();
            List<Integer> base = base();
            gens = new ArrayList<>(gens);
            gens.removeIf(g -> !base.contains(g));
            return idle;
        }

        int basis() {
            List<Integer> base = base();
            if (base.size() > 12 || base.equals(gens)) {
                return -1;
            }
            keep();
            gens = new ArrayList<>(base);
            return gens.size();
        }

        int list(int set) {
            if (!ok(set) || set == 0 || list.contains(set) || list.size() == 20) {
                return -1;
            }
            keep();
            list.add(set);
            return list.size();
        }

        int strike(int i) {
            if (i < 0 || i >= list.size()) {
                return -1;
            }
            keep();
            list.remove(i);
            return list.size();
        }

        int adopt() {
            if (list.isEmpty() || list.size() > 12 || list.equals(gens)) {
                return -1;
            }
            keep();
            gens = new ArrayList<>(list);
            return gens.size();
        }

        @SuppressWarnings("unchecked")
        int undo() {
            if (acts.isEmpty()) {
                return -1;
            }
            Object[] was = acts.removeLast();
            gens = (List<Integer>) was[0];
            weights = (int[]) was[1];
            list = (List<Integer>) was[2];
            return acts.size();
        }

        // -- asked

        static List<Integer> unionsOf(List<Integer> sets) {
            TreeSet<Integer> all = new TreeSet<>(ORDER);
            all.add(0);
            boolean more = true;
            while (more) {
                more = false;
                for (int a : new ArrayList<>(all)) {
                    for (int s : sets) {
                        more |= all.add(a | s);
                    }
                }
            }
            return new ArrayList<>(all);
        }

        List<Integer> members() {
            return known.computeIfAbsent(new ArrayList<>(gens), g -> unionsOf(g));
        }

        int top() {
            return members().get(members().size() - 1);
        }

        static boolean within(int a, int b) {
            return (a | b) == b;
        }

        List<Integer> base() {
            List<Integer> out = new ArrayList<>();
            for (int m : members()) {
                int union = 0;
                for (int l : members()) {
                    if (l != m && within(l, m)) {
                        union |= l;
                    }
                }
                if (m != 0 && union != m) {
                    out.add(m);
                }
            }
            return out;
        }

        int generator(int g, int what) {
            if (g < 0 || g >= gens.size() || what < 0 || what > 2) {
                return -1;
            }
            return what == 0 ? gens.get(g) : what == 1 ? (base().contains(gens.get(g)) ? 0 : 1) : members().indexOf(gens.get(g));
        }

        int member(int k) {
            return k < 0 || k >= members().size() ? -1 : members().get(k);
        }

        int place(int set) {
            return !ok(set) ? -1 : members().contains(set) ? members().indexOf(set) : -2;
        }

        int based(int k) {
            return k < 0 || k >= base().size() ? -1 : base().get(k);
        }

        int frequency(int p) {
            return (int) members().stream().filter(m -> (m >> p & 1) != 0).count();
        }

        int point(int p, int what) {
            if (p < 0 || p >= n || what < 0 || what > 5) {
                return -1;
            }
            switch (what) {
                case 0: return frequency(p);
                case 1: return frequency(p) * 2 >= members().size() ? 1 : 0;
                case 2: return weights[p];
                case 3: return (int) gens.stream().filter(g -> (g >> p & 1) != 0).count();
                case 4:
                    for (int q = 0; q < n; q++) {
                        int other = q;
                        boolean bothIn = (top() >> p & 1) != 0 && (top() >> q & 1) != 0;
                        if (q != p && bothIn && members().stream().allMatch(m -> (m >> p & 1) == (m >> other & 1))) {
                            return q;
                        }
                    }
                    return -2;
                default:
                    return members().stream().filter(m -> (m >> p & 1) != 0).mapToInt(m -> Integer.bitCount(m)).min().orElse(-2);
            }
        }

        int family(int what) {
            List<Integer> m = members();
            switch (what) {
                case 0: return m.size();
                case 1: return top();
                case 2: return base().size();
                case 3: { int bits = 0; for (int p = 0; p < n; p++) bits |= point(p, 1) << p; return bits; }
                case 4: { int best = 0; for (int p = 1; p < n; p++) if (frequency(p) > frequency(best)) best = p; return best; }
                case 5: return longestFrom(0, new HashMap<>());
                case 6: return spread();
                case 7: { int pairs = 0; for (int a = 0; a < m.size(); a++) pairs += degree(a, true); return pairs; }
                case 8: { int best = 0; for (int s = 0; s < 1 << n; s++) if (shattered(s) == 1) best = Math.max(best, Integer.bitCount(s)); return best; }
                case 9: return proves(weights) ? 1 : 0;
                case 10: return massOfAll(weights);
                case 11: return degree(0, true);
                case 12: return degree(m.size() - 1, false);
                default: return -1;
            }
        }

        int longestFrom(int a, Map<Integer, Integer> seen) {
            if (seen.containsKey(a)) {
                return seen.get(a);
            }
            int best = 0;
            for (int b : members()) {
                if (b != a && within(a, b)) {
                    best = Math.max(best, 1 + longestFrom(b, seen));
                }
            }
            seen.put(a, best);
            return best;
        }

        /** Small families by trying, great ones by chains of a simple matching. */
        int spread() {
            List<Integer> m = members();
            if (m.size() <= 44) {
                long[] near = new long[m.size()];
                for (int a = 0; a < m.size(); a++) {
                    for (int b = 0; b < m.size(); b++) {
                        if (a != b && (within(m.get(a), m.get(b)) || within(m.get(b), m.get(a)))) {
                            near[a] |= 1L << b;
                        }
                    }
                }
                return alone((1L << m.size()) - 1, near);
            }
            int[] taken = new int[m.size()];
            Arrays.fill(taken, -1);
            int chains = m.size();
            for (int a = 0; a < m.size(); a++) {
                chains -= match(a, taken, new boolean[m.size()]) ? 1 : 0;
            }
            return chains;
        }

        static int alone(long left, long[] near) {
            int worst = -1;
            for (int v = 0; v < near.length; v++) {
                if ((left >> v & 1) != 0 && (worst < 0 || Long.bitCount(near[v] & left) > Long.bitCount(near[worst] & left))) {
                    worst = v;
                }
            }
            if (worst < 0) {
                return 0;
            }
            if ((near[worst] & left) == 0) {
                return Long.bitCount(left);
            }
            long less = left & ~(1L << worst);
            return Math.max(alone(less, near), 1 + alone(less & ~near[worst], near));
        }

        boolean match(int a, int[] taken, boolean[] seen) {
            for (int b = 0; b < taken.length; b++) {
                if (b != a && within(member(a), member(b)) && !seen[b]) {
                    seen[b] = true;
                    if (taken[b] < 0 || match(taken[b], taken, seen)) {
                        taken[b] = a;
                        return true;
                    }
                }
            }
            return false;
        }

        static int massOf(int set, int[] w) {
            int sum = 0;
            for (int p = 0; p < 7; p++) {
                sum += (set >> p & 1) * w[p];
            }
            return sum;
        }

        int massOfAll(int[] w) {
            return members().stream().mapToInt(m -> massOf(m, w)).sum();
        }

        boolean proves(int[] w) {
            int whole = massOf(top(), w) * members().size();
            return massOfAll(w) >= whole / 2.0 && whole > 0;
        }

        int sized(int size) {
            return size < 0 || size > 7 ? -1 : (int) members().stream().filter(m -> Integer.bitCount(m) == size).count();
        }

        int mean(int what, boolean lower) {
            if (what < 0 || what > 1) {
                return -1;
            }
            int up = what == 0 ? members().stream().mapToInt(m -> Integer.bitCount(m)).sum() : massOfAll(weights);
            int low = members().size();
            for (int d = low; d > 1; d--) {
                if (up % d == 0 && low % d == 0) {
                    up /= d;
                    low /= d;
                }
            }
            return lower ? low : up;
        }

        int mass(int set) {
            return ok(set) ? massOf(set, weights) : -1;
        }

        int innerOf(int set) {
            int union = 0;
            for (int m : members()) {
                union |= within(m, set) ? m : 0;
            }
            return union;
        }

        int inner(int set) {
            return ok(set) ? innerOf(set) : -1;
        }

        int hull(int set) {
            if (!ok(set)) {
                return -1;
            }
            int all = (1 << n) - 1;
            for (int m : members()) {
                all &= within(set, m) ? m : all;
            }
            return all;
        }

        List<Integer> traceOf(int set) {
            TreeSet<Integer> out = new TreeSet<>(ORDER);
            members().forEach(m -> out.add(m & set));
            return new ArrayList<>(out);
        }

        int trace(int set, int k) {
            if (!ok(set) || k < -1) {
                return -1;
            }
            List<Integer> out = traceOf(set);
            return k == -1 ? out.size() : k < out.size() ? out.get(k) : -2;
        }

        int part(int p, boolean with, int what) {
            if (p < 0 || p >= n || what < 0 || what > 3) {
                return -1;
            }
            List<Integer> some = new ArrayList<>();
            for (int m : members()) {
                if ((m >> p & 1) != 0 == with) {
                    some.add(m);
                }
            }
            if (what == 0) {
                return some.size();
            }
            if (what == 3) {
                return some.stream().allMatch(a -> some.stream().allMatch(b -> some.contains(a | b))) ? 1 : 0;
            }
            if (some.isEmpty()) {
                return -2;
            }
            int out = some.get(0);
            for (int m : some) {
                out = what == 1 ? out | m : out & m;
            }
            return out;
        }

        boolean isNumber(int k) {
            return k >= 0 && k < members().size();
        }

        int covers(int a, int b) {
            if (!isNumber(a) || !isNumber(b)) {
                return -1;
            }
            int high = member(a);
            int low = member(b);
            boolean one = high != low && within(low, high);
            for (int m : members()) {
                one &= m == high || m == low || !(within(low, m) && within(m, high));
            }
            return one ? 1 : 0;
        }

        int degree(int k, boolean above) {
            if (!isNumber(k)) {
                return -1;
            }
            int sum = 0;
            for (int l = 0; l < members().size(); l++) {
                boolean nested = above ? within(member(k), member(l)) : within(member(l), member(k));
                if (nested) {
                    sum += above ? covers(l, k) : covers(k, l);
                }
            }
            return sum;
        }

        int single() {
            int sum = 0;
            for (int k = 0; k < members().size(); k++) {
                sum += member(k) != top() && degree(k, true) == 1 ? 1 : 0;
            }
            return sum;
        }

        int both(int a, int b, int what) {
            if (!isNumber(a) || !isNumber(b) || what < 0 || what > 1) {
                return -1;
            }
            return members().indexOf(what == 0 ? member(a) | member(b) : innerOf(member(a) & member(b)));
        }

        int unshared() {
            int size = members().size();
            if (size > 40) {
                return -2;
            }
            int[] inners = new int[128];
            for (int s = 0; s < 128; s++) {
                inners[s] = innerOf(s);
            }
            for (int a = 0; a < size; a++) {
                for (int b = 0; b < size; b++) {
                    for (int c = 0; c < size; c++) {
                        int left = inners[member(a) & (member(b) | member(c))];
                        int right = inners[member(a) & member(b)] | inners[member(a) & member(c)];
                        if (left != right) {
                            return 10000 * a + 100 * b + c;
                        }
                    }
                }
            }
            return -2;
        }

        int chain(int k) {
            List<Integer> best = longestRow(0, new HashMap<>());
            return k < 0 || k >= best.size() ? -1 : best.get(k);
        }

        /** Of all rows of covers from a number on, the longest; of several the first. */
        List<Integer> longestRow(int from, Map<Integer, List<Integer>> seen) {
            if (seen.containsKey(from)) {
                return seen.get(from);
            }
            List<Integer> best = List.of();
            for (int l = from + 1; l < members().size(); l++) {
                if (within(member(from), member(l)) && covers(l, from) == 1) {
                    List<Integer> row = longestRow(l, seen);
                    if (row.size() > best.size()) {
                        best = row;
                    }
                }
            }
            List<Integer> out = new ArrayList<>(List.of(from));
            out.addAll(best);
            seen.put(from, out);
            return out;
        }

        int common(int p, int q) {
            if (p < 0 || p >= n || q < 0 || q >= n) {
                return -1;
            }
            return (int) members().stream().filter(m -> (m >> p & 1) != 0 && (m >> q & 1) != 0).count();
        }

        int ranked(int k) {
            List<Integer> points = new ArrayList<>();
            for (int p = 0; p < n; p++) {
                points.add(p);
            }
            points.sort(Comparator.comparingInt(p -> -frequency(p)));
            return k < 0 || k >= n ? -1 : points.get(k);
        }

        int nested(int set, boolean above) {
            return !ok(set) ? -1 : (int) members().stream().filter(m -> above ? within(set, m) : within(m, set)).count();
        }

        int crossing() {
            Set<Integer> all = new HashSet<>(members());
            return all.stream().allMatch(a -> all.stream().allMatch(b -> all.contains(a & b))) ? 1 : 0;
        }

        int parts() {
            int[] group = new int[7];
            for (int p = 0; p < 7; p++) {
                group[p] = p;
            }
            for (int s : base()) {
                for (int p = 0; p < 7; p++) {
                    for (int q = 0; q < 7; q++) {
                        if ((s >> p & 1) != 0 && (s >> q & 1) != 0) {
                            int from = group[p];
                            int to = group[q];
                            for (int r = 0; r < 7; r++) {
                                group[r] = group[r] == from ? to : group[r];
                            }
                        }
                    }
                }
            }
            Set<Integer> seen = new HashSet<>();
            for (int p = 0; p < 7; p++) {
                if ((top() >> p & 1) != 0) {
                    seen.add(group[p]);
                }
            }
            return seen.size();
        }

        int shattered(int set) {
            if (!ok(set)) {
                return -1;
            }
            Set<Integer> pieces = new HashSet<>();
            for (int m : members()) {
                pieces.add(m & set);
            }
            for (int s = 0; s < 1 << n; s++) {
                if (within(s, set) && !pieces.contains(s)) {
                    return 0;
                }
            }
            return 1;
        }

        int fewest(int set) {
            if (!ok(set)) {
                return -1;
            }
            int best = -2;
            for (int pick = 0; pick < 1 << gens.size(); pick++) {
                int union = 0;
                for (int g = 0; g < gens.size(); g++) {
                    union |= (pick >> g & 1) != 0 ? gens.get(g) : 0;
                }
                if (union == set && (best < 0 || Integer.bitCount(pick) < best)) {
                    best = Integer.bitCount(pick);
                }
            }
            return best;
        }

        // -- were

        List<Integer> membersWith(int set) {
            TreeSet<Integer> out = new TreeSet<>(members());
            for (int m : members()) {
                out.add(m | set);
            }
            return new ArrayList<>(out);
        }

        int withSet(int set) {
            if (!ok(set) || set == 0) {
                return -1;
            }
            List<Integer> more = new ArrayList<>(gens);
            more.add(set);
            return unionsOf(more).size();
        }

        int withoutGenerator(int g) {
            if (g < 0 || g >= gens.size()) {
                return -1;
            }
            List<Integer> less = new ArrayList<>(gens);
            less.remove(g);
            return unionsOf(less).size();
        }

        int gentlest() {
            int best = -2;
            int least = 0;
            for (int s : inOrder()) {
                int size = membersWith(s).size();
                if (!members().contains(s) && (best < 0 || size < least)) {
                    best = s;
                    least = size;
                }
            }
            return best;
        }

        List<Integer> inOrder() {
            List<Integer> all = new ArrayList<>();
            for (int s = 1; s < 1 << n; s++) {
                all.add(s);
            }
            all.sort(ORDER);
            return all;
        }

        int spoiler() {
            int best = -2;
            int least = 0;
            for (int s : inOrder()) {
                List<Integer> all = membersWith(s);
                int frequent = 0;
                for (int p = 0; p < n; p++) {
                    int in = 0;
                    for (int m : all) {
                        in += m >> p & 1;
                    }
                    frequent += 2 * in >= all.size() ? 1 : 0;
                }
                if (best < 0 || frequent < least) {
                    best = s;
                    least = frequent;
                }
            }
            return best;
        }

        int proof() {
            int best = -2;
            int least = 100;
            int[] row = new int[7];
            int end = (int) Math.pow(10, n);
            for (int digits = 1; digits < end; digits++) {
                int sum = 0;
                boolean low = true;
                int left = digits;
                for (int p = n - 1; p >= 0; p--) {
                    row[p] = left % 10;
                    left /= 10;
                    sum += row[p];
                    low &= row[p] <= 2;
                    if (!low) {
                        break;
                    }
                }
                if (low && sum < least && proves(row)) {
                    best = digits;
                    least = sum;
                }
            }
            return best;
        }

        // -- the list, texts

        int listed(int i) {
            return i < 0 || i >= list.size() ? -1 : list.get(i);
        }

        int refused(int what) {
            if (what < 0 || what > 2) {
                return -1;
            }
            for (int i = 0; i < list.size(); i++) {
                for (int j = i + 1; j < list.size(); j++) {
                    if (!list.contains(list.get(i) | list.get(j))) {
                        return new int[] {i, j, list.get(i) | list.get(j)}[what];
                    }
                }
            }
            return -2;
        }

        int needs() {
            Set<Integer> all = new HashSet<>(list);
            boolean more = true;
            while (more) {
                more = false;
                for (int a : new ArrayList<>(all)) {
                    for (int b : new ArrayList<>(all)) {
                        more |= all.add(a | b);
                    }
                }
            }
            return all.size() - list.size();
        }

        String spelled() {
            StringBuilder out = new StringBuilder("points " + n + ";");
            for (int p = 0; p < n; p++) {
                if (weights[p] != 1) {
                    out.append("weight " + (char) ('a' + p) + " " + weights[p] + ";");
                }
            }
            gens.forEach(g -> out.append("set " + letters(g) + ";"));
            return out.toString();
        }

        int spell(int i) {
            String out = spelled();
            return i < -1 ? -1 : i == -1 ? out.length() : i < out.length() ? out.charAt(i) : -2;
        }

        int count(int what) {
            switch (what) {
                case 0: return n;
                case 1: return gens.size();
                case 2: return list.size();
                case 3: return acts.size();
                case 4: return tape.size();
                case 5: { List<Integer> base = base(); return (int) gens.stream().filter(g -> !base.contains(g)).count(); }
                case 6: return massOf((1 << n) - 1, weights);
                default: return -1;
            }
        }
    }
}
