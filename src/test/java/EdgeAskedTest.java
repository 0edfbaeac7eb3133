/** The edges that promises 18 to 43 name (what is asked), each with a test of its own. */
public final class EdgeAskedTest extends Edges {
    /** MEMBERS by number: 0 the empty SET, 1 d, 2 ab, 3 abd, 4 bcd, 5 abcd; e is in none. */
    private static final String SIX = "points 5;set ab;set bcd;set d;";
    private static final String ROW = "points 7;set a;set ab;set abc;set abcd;set abcde;set abcdef;set abcdefg;";
    private static final String NO_WEIGHT = "weight a 0;weight b 0;weight c 0;weight d 0;";

    interface Asking {
        int of(UnionFamilies x, int given);
    }

    public static void main(String[] args) {
        generatorsAndMembers();
        points();
        family();
        familyAtItsEnds();
        sizesAndMeans();
        masses();
        inners();
        hulls();
        traces();
        parts();
        covers();
        joins();
        unshared();
        chains();
        commonAndRanked();
        nested();
        crossingAndParts();
        shattered();
        fewest();
        nothingHappens();
        answersFollowActs();
        end(18, 43);
    }

    /** NONE for SETS with a POINT too many; what is just within is told. */
    private static void otherPoints(String call, Asking asking) {
        for (int n = 1; n <= 7; n++) {
            UnionFamilies x = of("points " + n + ";set a;");
            int above = 1 << n;
            due(call + " of " + above, asking.of(x, above), NONE);
            due(call + " of " + (above | A), asking.of(x, above | A), NONE);
            due(call + " of 1 << 30", asking.of(x, 1 << 30), NONE);
            due(call + " of the greatest number", asking.of(x, GREATEST), NONE);
            due(call + " of all POINTS is told", asking.of(x, above - 1) != NONE, true);
            due(call + " of the empty SET is told", asking.of(x, 0) != NONE, true);
        }
    }

    /** NONE for numbers below 0, those with bits of POINTS, too. */
    private static void belowZero(String call, Asking asking) {
        UnionFamilies x = of("points 7;set a;");
        due(call + " of -1", asking.of(x, -1), NONE);
        due(call + " of -127", asking.of(x, -127), NONE);
        due(call + " of the least number", asking.of(x, LEAST), NONE);
        due(call + " of the least number and a", asking.of(x, LEAST | A), NONE);
    }

    /** NONE outside 0 .. size less 1, and something else at both ends. */
    private static void numbered(String call, UnionFamilies x, int size, Asking asking) {
        due(call + " of -1", asking.of(x, -1), NONE);
        due(call + " of the least number", asking.of(x, LEAST), NONE);
        due(call + " of " + size, asking.of(x, size), NONE);
        due(call + " of " + (size + 1), asking.of(x, size + 1), NONE);
        due(call + " of the greatest number", asking.of(x, GREATEST), NONE);
        if (size > 0) {
            due(call + " of 0 is told", asking.of(x, 0) != NONE, true);
            due(call + " of " + (size - 1) + " is told", asking.of(x, size - 1) != NONE, true);
        }
    }

    private static void generatorsAndMembers() {
        edge(18, "1: 1 IDLE, else 0", () -> {
            UnionFamilies x = of("set a;set b;set ab;");
            due("of the BASIS", x.generator(0, 1), 0);
            due("not of it", x.generator(2, 1), 1);
        });
        edge(18, "2 its number among MEMBERS", () -> {
            due("the first that can be", of("set abcd;").generator(0, 2), 1);
            UnionFamilies x = of("set abcd;set b;set a;");
            due("the TOP", x.generator(0, 2), 4);
            due("ordered", x.generator(1, 2), 2);
        });
        edge(18, "NONE for others.", () -> {
            UnionFamilies x = of("set a;set b;");
            for (int what = 0; what <= 2; what++) {
                int asked = what;
                numbered("generator with " + what, x, 2, (o, g) -> o.generator(g, asked));
                numbered("generator of none with " + what, new UnionFamilies(), 0, (o, g) -> o.generator(g, asked));
                numbered("generator of 12 with " + what, of(TWELVE), 12, (o, g) -> o.generator(g, asked));
            }
            numbered("what", x, 3, (o, what) -> o.generator(0, what));
        });
        edge(19, "NONE: no such one.", () -> {
            numbered("member", new UnionFamilies(), 1, (o, k) -> o.member(k));
            numbered("member", of(SIX), 6, (o, k) -> o.member(k));
            numbered("member", of(ALL_SETS), 128, (o, k) -> o.member(k));
            due("the empty SET", of(SIX).member(0), 0);
            due("the TOP", of(SIX).member(5), 15);
        });
        edge(20, "-2: it is none.", () -> {
            due("one POINT of a MEMBER", of(SIX).place(A), LACKS);
            due("more than the TOP", of(SIX).place(31), LACKS);
            due("the empty SET is one", of(SIX).place(0), 0);
            due("the TOP is one", of(SIX).place(15), 5);
            due("of no GENERATORS", new UnionFamilies().place(15), LACKS);
        });
        edge(20, "NONE: of other POINTS", () -> otherPoints("place", (o, set) -> o.place(set)));
        edge(20, "below 0", () -> belowZero("place", (o, set) -> o.place(set)));
        edge(21, "NONE: no such one.", () -> {
            numbered("based", new UnionFamilies(), 0, (o, k) -> o.based(k));
            numbered("based", of("set a;set b;set ab;"), 2, (o, k) -> o.based(k));
            numbered("based", of(ALL_SETS), 7, (o, k) -> o.based(k));
            numbered("based", of("points 7;set fg;set ab;set ac;set ad;set ae;set af;set ag;set bc;set bd;set be;set bf;set bg;"), 12,
                (o, k) -> o.based(k));
        });
    }

    private static void points() {
        edge(22, "1: 1 FREQUENT, else 0", () -> {
            due("just half", of(SIX).point(0, 1), 1);
            due("below", of(SIX).point(2, 1), 0);
            due("in none", of(SIX).point(4, 1), 0);
            due("in all but one", of(ROW).point(0, 1), 1);
        });
        edge(22, "4 the first of its TWINS (a POINT; -2: none)", () -> {
            UnionFamilies x = of("points 7;set bcd;set a;set fg;");
            due("of several the first", x.point(3, 4), 1);
            due("of the first one the second", x.point(1, 4), 2);
            due("the last POINT", x.point(6, 4), 5);
            due("its TWIN is the last POINT", x.point(5, 4), 6);
            due("alone", x.point(0, 4), LACKS);
            due("not of the TOP", x.point(4, 4), LACKS);
            due("the first POINT is one", of("set abcd;").point(3, 4), 0);
            due("two that are not of the TOP", of("set a;").point(1, 4), LACKS);
        });
        edge(22, "5 the SIZE of the least MEMBER with it (-2: none)", () -> {
            due("in none", of(SIX).point(4, 5), LACKS);
            due("one POINT", of(SIX).point(3, 5), 1);
            due("the least of several", of(SIX).point(1, 5), 2);
            due("the TOP alone", of(ROW).point(6, 5), 7);
        });
        edge(22, "NONE for others.", () -> {
            for (int what = 0; what <= 5; what++) {
                int asked = what;
                numbered("point with " + what, new UnionFamilies(), 4, (o, p) -> o.point(p, asked));
                numbered("point with " + what, of("points 1;"), 1, (o, p) -> o.point(p, asked));
                numbered("point with " + what, of(ALL_SETS), 7, (o, p) -> o.point(p, asked));
            }
            numbered("what", of(SIX), 6, (o, what) -> o.point(4, what));
        });
    }

    private static void family() {
        edge(23, "4 the POINT with the greatest FREQUENCY, of several the first", () -> {
            due("of none the first", new UnionFamilies().family(4), 0);
            due("of two the first", of("set bc;").family(4), 1);
            due("the last one", of("points 7;set g;").family(4), 6);
            due("one more than others", of("points 3;set abc;set c;set bc;").family(4), 2);
        });
        edge(23, "9: 1 WEIGHTS PROVE, else 0", () -> {
            due("at first", of("set a;").family(9), 1);
            due("just below half", of("points 3;set a;set b;set abc;").family(9), 0);
            due("all WEIGHTS 0", of(NO_WEIGHT + "set a;").family(9), 0);
            due("the empty TOP", new UnionFamilies().family(9), 0);
            due("WEIGHTS off the TOP", of("weight b 9;set a;").family(9), 1);
        });
        edge(23, "11 MEMBERS that cover the empty SET", () -> {
            due("of the empty SET alone", new UnionFamilies().family(11), 0);
            due("of one", of("set abcd;").family(11), 1);
            due("of all", of(ALL_SETS).family(11), 7);
            due("of a row", of(ROW).family(11), 1);
        });
        edge(23, "NONE for others.", () -> {
            numbered("family", new UnionFamilies(), 13, (o, what) -> o.family(what));
            numbered("family", of(ALL_SETS), 13, (o, what) -> o.family(what));
        });
    }

    /** Of each number of family: what it is for one MEMBER, for a row, for all SETS. */
    private static void familyAtItsEnds() {
        String[] words = {"0 MEMBERS", "1 the TOP", "2 the BASIS: how many", "3 FREQUENT POINTS (bits)", "4 the POINT", "5 HEIGHT",
            "6 SPREAD", "7 COVERS: how many pairs", "8 DEPTH", "9: 1 WEIGHTS", "10 MASS of all MEMBERS together",
            "MEMBERS that cover", "12 MEMBERS that the TOP covers"};
        int[] one = {1, 0, 0, 0, 0, 0, 1, 0, 0, 0, 0, 0, 0};
        int[] row = {8, 127, 7, 15, 0, 7, 1, 7, 1, 1, 28, 1, 1};
        int[] all = {128, 127, 7, 127, 0, 7, 35, 448, 7, 1, 448, 7, 7};
        for (int what = 0; what < words.length; what++) {
            int asked = what;
            edge(23, words[what], () -> {
                due("family(" + asked + ") of none", new UnionFamilies().family(asked), one[asked]);
                due("family(" + asked + ") of a row", of(ROW).family(asked), row[asked]);
                due("family(" + asked + ") of all SETS", of(ALL_SETS).family(asked), all[asked]);
            });
        }
    }

    private static void sizesAndMeans() {
        edge(24, "(0 .. 7)", () -> {
            due("0", new UnionFamilies().sized(0), 1);
            due("7 of 7", of(ALL_SETS).sized(7), 1);
            due("4 of 7", of(ALL_SETS).sized(4), 35);
            due("7, though there are 4 POINTS", new UnionFamilies().sized(7), 0);
        });
        edge(24, "NONE: another one.", () -> {
            numbered("sized", new UnionFamilies(), 8, (o, size) -> o.sized(size));
            numbered("sized", of(ALL_SETS), 8, (o, size) -> o.sized(size));
        });
        edge(25, "in least terms: the upper part, or the lower one (lower)", () -> {
            due("0 of 1", new UnionFamilies().mean(0, false), 0);
            due("0 of 1", new UnionFamilies().mean(0, true), 1);
            due("448 of 128", of(ALL_SETS).mean(0, false), 7);
            due("448 of 128", of(ALL_SETS).mean(0, true), 2);
            // 0, a, b, ab, abc: 7 of 5 can't be less.
            due("7 of 5", of("set a;set b;set abc;").mean(0, false), 7);
            due("7 of 5", of("set a;set b;set abc;").mean(0, true), 5);
            due("4 of 4", of("set a;set b;").mean(1, false), 1);
            due("4 of 4", of("set a;set b;").mean(1, true), 1);
            due("a mean MASS of 0", of(NO_WEIGHT + "set a;set b;").mean(1, false), 0);
            due("a mean MASS of 0", of(NO_WEIGHT + "set a;set b;").mean(1, true), 1);
            UnionFamilies heavy = of("points 7;weight a 9;weight b 9;weight c 9;weight d 9;weight e 9;weight f 9;weight g 9;"
                + "set a;set b;set c;set d;set e;set f;set g;");
            due("the greatest MASS", heavy.mean(1, false), 63);
            due("the greatest MASS", heavy.mean(1, true), 2);
        });
        edge(25, "NONE: another what.", () -> {
            numbered("mean, upper", of(SIX), 2, (o, what) -> o.mean(what, false));
            numbered("mean, lower", of(SIX), 2, (o, what) -> o.mean(what, true));
        });
    }

    private static void masses() {
        edge(26, "MASS of a SET.", () -> {
            UnionFamilies x = of("weight b 0;weight d 9;set a;");
            due("of the empty SET", x.mass(0), 0);
            due("WEIGHTS of 0", x.mass(B), 0);
            due("of no MEMBER", x.mass(D), 9);
            due("of all POINTS", x.mass(15), 11);
        });
        edge(26, "NONE: of other POINTS", () -> otherPoints("mass", (o, set) -> o.mass(set)));
        edge(26, "below 0", () -> belowZero("mass", (o, set) -> o.mass(set)));
    }

    private static void inners() {
        edge(27, "INNER of a SET.", () -> {
            due("of the empty SET", of(SIX).inner(0), 0);
            due("none but the empty one", of(SIX).inner(A | C | E), 0);
            due("of all POINTS", of(SIX).inner(31), 15);
            due("of no GENERATORS", new UnionFamilies().inner(15), 0);
            due("a union of several", of("points 5;set ab;set bc;set d;").inner(A | B | C | E), A | B | C);
        });
        edge(27, "NONE: of other POINTS", () -> otherPoints("inner", (o, set) -> o.inner(set)));
        edge(27, "below 0", () -> belowZero("inner", (o, set) -> o.inner(set)));
    }

    private static void hulls() {
        edge(28, "HULL of a SET.", () -> {
            due("of the empty SET", of(SIX).hull(0), 0);
            due("in no MEMBER: all POINTS", of(SIX).hull(E), 31);
            due("in no MEMBER: all POINTS", of(SIX).hull(31), 31);
            due("of the TOP", of(SIX).hull(15), 15);
            due("in one alone", of(SIX).hull(A | C), 15);
            due("no MEMBER", of(SIX).hull(B), B);
        });
        edge(28, "NONE: of other POINTS", () -> otherPoints("hull", (o, set) -> o.hull(set)));
        edge(28, "below 0", () -> belowZero("hull", (o, set) -> o.hull(set)));
    }

    private static void traces() {
        edge(29, "how many (k NONE)", () -> {
            due("in the empty SET", of(SIX).trace(0, NONE), 1);
            due("off the TOP", of(SIX).trace(E, NONE), 1);
            due("in all POINTS", of(SIX).trace(31, NONE), 6);
            due("in cd", of(SIX).trace(C | D, NONE), 3);
            due("all SETS", of(ALL_SETS).trace(127, NONE), 128);
        });
        edge(29, "the k-th in order", () -> {
            due("the first", of(SIX).trace(A | B | D, 0), 0);
            // 0, d, ab, bd, abd: abd and abcd have the same in it.
            due("SIZE first", of(SIX).trace(A | B | D, 1), D);
            due("then bits", of(SIX).trace(A | B | D, 2), A | B);
            due("then bits", of(SIX).trace(A | B | D, 3), B | D);
            due("the last", of(SIX).trace(A | B | D, 4), A | B | D);
            due("the last of all", of(ALL_SETS).trace(127, 127), 127);
            UnionFamilies x = of(SIX);
            x.trace(31, NONE);
            due("behind a greater one", x.trace(C | D, NONE), 3);
        });
        edge(29, "-2: there are not so many", () -> {
            due("in the empty SET", of(SIX).trace(0, 1), LACKS);
            due("in cd", of(SIX).trace(C | D, 2), C | D);
            due("in cd", of(SIX).trace(C | D, 3), LACKS);
            due("the greatest k", of(SIX).trace(31, GREATEST), LACKS);
            due("of all SETS", of(ALL_SETS).trace(127, 128), LACKS);
        });
        edge(29, "NONE: of other POINTS", () -> {
            otherPoints("trace, how many", (o, set) -> o.trace(set, NONE));
            otherPoints("trace, the first", (o, set) -> o.trace(set, 0));
            otherPoints("trace, not so many", (o, set) -> o.trace(set, 999));
        });
        edge(29, "below 0", () -> {
            belowZero("trace, how many", (o, set) -> o.trace(set, NONE));
            belowZero("trace, not so many", (o, set) -> o.trace(set, 999));
        });
        edge(29, "k below NONE", () -> {
            due("-2", of(SIX).trace(31, -2), NONE);
            due("the least k", of(SIX).trace(31, LEAST), NONE);
            due("in the empty SET", of(SIX).trace(0, -2), NONE);
        });
    }

    private static void parts() {
        edge(30, "(both -2: there are none)", () -> {
            due("LINK: how many", of(SIX).part(4, true, 0), 0);
            due("LINK: the union", of(SIX).part(4, true, 1), LACKS);
            due("LINK: the intersection", of(SIX).part(4, true, 2), LACKS);
            due("of no GENERATORS", new UnionFamilies().part(0, true, 1), LACKS);
            due("of no GENERATORS", new UnionFamilies().part(0, true, 2), LACKS);
            // The empty SET is in each REST, so that there is always one.
            due("REST: how many", of(ROW).part(0, false, 0), 1);
            due("REST: the union", of(ROW).part(0, false, 1), 0);
            due("REST: the intersection", of(ROW).part(0, false, 2), 0);
            due("LINK of one", of(ROW).part(6, true, 1), 127);
            due("LINK of one", of(ROW).part(6, true, 2), 127);
        });
        edge(30, "3: 1 it is closed under unions of two, else 0", () -> {
            due("an empty LINK", of(SIX).part(4, true, 3), 1);
            due("a LINK", of(SIX).part(3, true, 3), 1);
            due("a REST of one", of(ROW).part(0, false, 3), 1);
            due("a REST", of(SIX).part(2, false, 3), 1);
        });
        edge(30, "NONE: no such ones.", () -> {
            for (int what = 0; what <= 3; what++) {
                int asked = what;
                numbered("LINK with " + what, of(SIX), 5, (o, p) -> o.part(p, true, asked));
                numbered("REST with " + what, of(SIX), 5, (o, p) -> o.part(p, false, asked));
                numbered("LINK with " + what, of("points 1;"), 1, (o, p) -> o.part(p, true, asked));
                numbered("REST with " + what, of(ALL_SETS), 7, (o, p) -> o.part(p, false, asked));
            }
            numbered("what of a LINK", of(SIX), 4, (o, what) -> o.part(0, true, what));
            numbered("what of a REST", of(SIX), 4, (o, what) -> o.part(0, false, what));
        });
    }

    private static void covers() {
        edge(31, "(1, 0)", () -> {
            due("covers", of(SIX).covers(1, 0), 1);
            due("itself", of(SIX).covers(0, 0), 0);
            due("the other way", of(SIX).covers(0, 1), 0);
            due("one is between", of(SIX).covers(3, 0), 0);
            due("not within", of(SIX).covers(4, 2), 0);
            due("the TOP", of(SIX).covers(5, 4), 1);
        });
        edge(31, "NONE: no such ones.", () -> {
            numbered("covers, the first", of(SIX), 6, (o, a) -> o.covers(a, 0));
            numbered("covers, the second", of(SIX), 6, (o, b) -> o.covers(0, b));
            numbered("covers, both", new UnionFamilies(), 1, (o, k) -> o.covers(k, k));
            numbered("covers, the first", of(ALL_SETS), 128, (o, a) -> o.covers(a, 127));
            numbered("covers, the second", of(ALL_SETS), 128, (o, b) -> o.covers(127, b));
        });
        edge(32, "How many MEMBERS COVER the k-th one (above true), it COVERS (false).", () -> {
            due("the TOP, above", of(SIX).degree(5, true), 0);
            due("the empty SET, below", of(SIX).degree(0, false), 0);
            due("of one MEMBER", new UnionFamilies().degree(0, true), 0);
            due("of one MEMBER", new UnionFamilies().degree(0, false), 0);
            due("of all SETS", of(ALL_SETS).degree(0, true), 7);
            due("of all SETS", of(ALL_SETS).degree(127, false), 7);
        });
        edge(32, "NONE: no such one.", () -> {
            numbered("degree above", of(SIX), 6, (o, k) -> o.degree(k, true));
            numbered("degree below", of(SIX), 6, (o, k) -> o.degree(k, false));
            numbered("degree above", new UnionFamilies(), 1, (o, k) -> o.degree(k, true));
            numbered("degree below", of(ALL_SETS), 128, (o, k) -> o.degree(k, false));
        });
        edge(33, "MEMBERS, but the TOP, that just one MEMBER COVERS: how many.", () -> {
            due("of the TOP alone", new UnionFamilies().single(), 0);
            due("the empty SET", of("set abcd;").single(), 1);
            due("of a row", of(ROW).single(), 7);
            due("not those of two", of("set a;set b;").single(), 2);
            due("of all SETS", of(ALL_SETS).single(), 7);
        });
    }

    private static void joins() {
        edge(34, "0 the number of their JOIN, 1 of their MEET", () -> {
            due("JOIN with the empty SET", of(SIX).both(0, 3, 0), 3);
            due("MEET with the empty SET", of(SIX).both(0, 3, 1), 0);
            due("JOIN with the TOP", of(SIX).both(5, 2, 0), 5);
            due("MEET with the TOP", of(SIX).both(5, 2, 1), 2);
            due("MEET, though b is in both", of(SIX).both(2, 4, 1), 0);
            due("of one MEMBER", new UnionFamilies().both(0, 0, 1), 0);
        });
        edge(34, "NONE: no such ones.", () -> {
            for (int what = 0; what <= 1; what++) {
                int asked = what;
                numbered("both, the first", of(SIX), 6, (o, a) -> o.both(a, 5, asked));
                numbered("both, the second", of(SIX), 6, (o, b) -> o.both(5, b, asked));
                numbered("both of one", new UnionFamilies(), 1, (o, k) -> o.both(k, k, asked));
                numbered("both of all", of(ALL_SETS), 128, (o, k) -> o.both(k, 127, asked));
            }
            numbered("what", of(SIX), 2, (o, what) -> o.both(0, 0, what));
        });
    }

    private static void unshared() {
        edge(35, "The first MEMBERS a, b, c (10000 * a + 100 * b + c by numbers, as rows)", () -> {
            due("1, 2, 3 of 1, 2, 3", of("points 3;set ab;set ac;set bc;").unshared(), 10203);
            // 0, a, ab, bc, abc: ab has a of a, nothing of bc.
            due("2, 1, 3", of("points 3;set a;set ab;set bc;").unshared(), 20103);
        });
        edge(35, "is another one than the JOIN of their MEETS with a", () -> {
            // 0, ab, bc, abc are as a square: b, that is in both, is no MEMBER.
            due("a square", of("points 3;set ab;set bc;").unshared(), LACKS);
            due("three pairs", of("points 3;set ab;set ac;set bc;").unshared() >= 0, true);
        });
        edge(35, "-2: there are none", () -> {
            due("of one", new UnionFamilies().unshared(), LACKS);
            due("of a row", of(ROW).unshared(), LACKS);
            due("of 32 SETS", of("points 5;set a;set b;set c;set d;set e;").unshared(), LACKS);
        });
        edge(35, "or more than 40 MEMBERS (that looked at first)", () -> {
            UnionFamilies x = of("points 6;set ab;set ac;set bc;set d;set e;set f;");
            due("just 40", x.family(0), 40);
            due("just 40", x.unshared(), 40506);
            // As it has abcde, aef, bcd: abcde has bcd of bcd, nothing of aef, though it is within both together.
            x = of("points 6;set b;set c;set d;set f;set ef;set af;set abcde;");
            due("just 41", x.family(0), 41);
            due("just 41", x.unshared(), LACKS);
            x = of("points 7;set ab;set ac;set bc;set d;set e;set f;set g;");
            due("80", x.family(0), 80);
            due("80", x.unshared(), LACKS);
        });
    }

    private static void chains() {
        edge(36, "The k-th of the first longest row of MEMBERS", () -> {
            due("of one", new UnionFamilies().chain(0), 0);
            due("of the longest", of(ROW).chain(7), 7);
            // 0, ab, cd, acd, abcd: by ab there are three, by cd four.
            due("not the first, but the longest", of("set ab;set cd;set acd;").chain(1), 2);
            due("its end", of("set ab;set cd;set acd;").chain(3), 4);
        });
        edge(36, "each COVERING the one ahead, from the empty SET on", () -> {
            UnionFamilies x = of("points 5;set abcde;set a;set bc;set bcd;");
            due("the empty SET", x.chain(0), 0);
            for (int k = 1; k <= x.family(5); k++) {
                due("chain(" + k + ") covers the one ahead", x.covers(x.chain(k), x.chain(k - 1)), 1);
            }
        });
        edge(36, "(of all such the first as a row of numbers)", () -> {
            due("d ahead of ab", of(SIX).chain(1), 1);
            due("abd ahead of bcd", of(SIX).chain(2), 3);
            due("the TOP", of(SIX).chain(3), 5);
            due("of all SETS", of(ALL_SETS).chain(1), 1);
            due("ab of all SETS", of(ALL_SETS).chain(2), 8);
            due("the TOP of all SETS", of(ALL_SETS).chain(7), 127);
        });
        edge(36, "NONE: no such k.", () -> {
            numbered("chain", new UnionFamilies(), 1, (o, k) -> o.chain(k));
            numbered("chain", of(SIX), 4, (o, k) -> o.chain(k));
            numbered("chain", of(ALL_SETS), 8, (o, k) -> o.chain(k));
        });
    }

    private static void commonAndRanked() {
        edge(37, "How many MEMBERS have two POINTS", () -> {
            due("a and b", of(SIX).common(0, 1), 3);
            due("a and d", of(SIX).common(0, 3), 2);
            due("d and a", of(SIX).common(3, 0), 2);
            due("one is in none", of(SIX).common(0, 4), 0);
            due("one is in none", of(SIX).common(4, 0), 0);
            due("the TOP alone", of(ROW).common(6, 0), 1);
        });
        edge(37, "(both one: it)", () -> {
            due("b", of(SIX).common(1, 1), 4);
            due("e", of(SIX).common(4, 4), 0);
            due("the last POINT", of(ROW).common(6, 6), 1);
        });
        edge(37, "NONE: no such POINTS.", () -> {
            numbered("common, the first", of(SIX), 5, (o, p) -> o.common(p, 4));
            numbered("common, the second", of(SIX), 5, (o, p) -> o.common(4, p));
            numbered("common, both", of("points 1;"), 1, (o, p) -> o.common(p, p));
            numbered("common of seven", of(ALL_SETS), 7, (o, p) -> o.common(p, p));
        });
        edge(38, "the greatest first, of alike ones by numbers", () -> {
            due("all alike, the first", new UnionFamilies().ranked(0), 0);
            due("all alike, the last", new UnionFamilies().ranked(3), 3);
            due("b ahead of d", of(SIX).ranked(0), 1);
            due("d behind b", of(SIX).ranked(1), 3);
            due("in none", of(SIX).ranked(4), 4);
            due("the last POINT first", of("points 7;set g;").ranked(0), 6);
            due("the others behind it", of("points 7;set g;").ranked(6), 5);
        });
        edge(38, "NONE: no such k.", () -> {
            numbered("ranked", new UnionFamilies(), 4, (o, k) -> o.ranked(k));
            numbered("ranked", of("points 1;"), 1, (o, k) -> o.ranked(k));
            numbered("ranked", of(ALL_SETS), 7, (o, k) -> o.ranked(k));
        });
    }

    private static void nested() {
        edge(39, "How many MEMBERS are within a SET (above false), have it within them (true).", () -> {
            due("within the empty SET: itself", of(SIX).nested(0, false), 1);
            due("around the empty SET: all", of(SIX).nested(0, true), 6);
            due("within all POINTS: all", of(SIX).nested(31, false), 6);
            due("around all POINTS: none", of(SIX).nested(31, true), 0);
            due("within the TOP: it, too", of(SIX).nested(15, false), 6);
            due("around the TOP: it, too", of(SIX).nested(15, true), 1);
        });
        edge(39, "NONE: of other POINTS", () -> {
            otherPoints("nested, within", (o, set) -> o.nested(set, false));
            otherPoints("nested, around", (o, set) -> o.nested(set, true));
        });
        edge(39, "below 0", () -> {
            belowZero("nested, within", (o, set) -> o.nested(set, false));
            belowZero("nested, around", (o, set) -> o.nested(set, true));
        });
    }

    private static void crossingAndParts() {
        edge(40, "(1, 0)", () -> {
            due("of one", new UnionFamilies().crossing(), 1);
            due("of all SETS", of(ALL_SETS).crossing(), 1);
            due("nothing is in both", of("set a;set b;").crossing(), 1);
            due("b is in both", of("set ab;set bc;").crossing(), 0);
            due("b is in both, and a MEMBER", of("set ab;set bc;set b;").crossing(), 1);
            // g is in both of the last two alone.
            due("the last two", of("points 7;set a;set bcdg;set efg;").crossing(), 0);
        });
        edge(41, "POINTS of the TOP fall", () -> {
            due("of none", new UnionFamilies().parts(), 0);
            due("not those off the TOP", of("points 7;set a;").parts(), 1);
            due("each POINT", of(ALL_SETS).parts(), 7);
            due("all in one", of("points 7;set abcdefg;").parts(), 1);
        });
        edge(41, "two of one SET of the BASIS are in one", () -> {
            due("of two SETS", of("set ab;set bc;").parts(), 1);
            due("SETS apart", of("set ab;set cd;").parts(), 2);
            due("an IDLE GENERATOR binds nothing", of("set a;set b;set ab;").parts(), 2);
            due("a long way round", of("points 7;set ag;set fg;set ef;set de;set cd;set bc;").parts(), 1);
        });
    }

    private static void shattered() {
        edge(42, "(1, 0)", () -> {
            due("the empty SET", new UnionFamilies().shattered(0), 1);
            due("a POINT in none", of(SIX).shattered(E), 0);
            due("ad", of(SIX).shattered(A | D), 1);
            due("ab", of(SIX).shattered(A | B), 0);
            due("all of 128", of(ALL_SETS).shattered(127), 1);
            due("all of a row", of(ROW).shattered(127), 0);
        });
        edge(42, "NONE: of other POINTS", () -> otherPoints("shattered", (o, set) -> o.shattered(set)));
        edge(42, "below 0", () -> belowZero("shattered", (o, set) -> o.shattered(set)));
    }

    private static void fewest() {
        edge(43, "The fewest GENERATORS whose union is a SET", () -> {
            due("the empty SET", new UnionFamilies().fewest(0), 0);
            due("the empty SET", of(SIX).fewest(0), 0);
            due("one, though it is IDLE", of("set a;set b;set ab;").fewest(A | B), 1);
            due("two, though three have it", of("set ab;set bc;set cd;").fewest(15), 2);
            due("all seven", of(ALL_SETS).fewest(127), 7);
        });
        edge(43, "-2: it is no MEMBER", () -> {
            due("within one", of(SIX).fewest(A), LACKS);
            due("more than the TOP", of(SIX).fewest(31), LACKS);
            due("of no GENERATORS", new UnionFamilies().fewest(15), LACKS);
        });
        edge(43, "NONE: of other POINTS", () -> otherPoints("fewest", (o, set) -> o.fewest(set)));
        edge(43, "below 0", () -> belowZero("fewest", (o, set) -> o.fewest(set)));
    }

    /** The document tells of no change by a call that asks. */
    private static void nothingHappens() {
        UnionFamilies x = of(SIX);
        x.list(A);
        x.weigh(0, 3);
        String before = state(x);
        x.generator(0, 1);
        x.place(3);
        x.point(0, 4);
        for (int what = 0; what <= 12; what++) {
            x.family(what);
        }
        x.mean(1, true);
        x.inner(7);
        x.hull(7);
        x.trace(7, 1);
        x.part(0, true, 3);
        x.single();
        x.unshared();
        x.chain(2);
        x.crossing();
        x.parts();
        x.fewest(7);
        due("what stands behind calls that ask", state(x), before);
        due("MEMBERS behind calls that ask", membersOf(x), ",d,ab,abd,bcd,abcd");
    }

    /** What was asked ahead of an act, or of an undo, does not stay behind it. */
    private static void answersFollowActs() {
        UnionFamilies x = of(ALL_SETS);
        dueAsNew("at first", x, ALL_SETS);
        tell(x, SIX);
        dueAsNew("behind a TEXT", x, SIX);
        x.drop(2);
        dueAsNew("behind drop", x, "points 5;set ab;set bcd;");
        x.without(0);
        dueAsNew("behind without", x, "points 5;set b;set bcd;");
        x.undo();
        x.undo();
        dueAsNew("behind undo", x, SIX);
    }

    private static void dueAsNew(String when, UnionFamilies x, String told) {
        UnionFamilies fresh = of(told);
        for (int what = 0; what <= 12; what++) {
            due("family(" + what + ") " + when, x.family(what), fresh.family(what));
        }
        for (int k = 0; k <= 8; k++) {
            due("chain(" + k + ") " + when, x.chain(k), fresh.chain(k));
            due("degree(" + k + ", true) " + when, x.degree(k, true), fresh.degree(k, true));
            due("degree(" + k + ", false) " + when, x.degree(k, false), fresh.degree(k, false));
        }
        due("single " + when, x.single(), fresh.single());
    }
}
