/** The edges that promises 44 to 53 name (what were, the list, texts), each with a test of its own. */
public final class EdgeWereTest extends Edges {
    private static final String PAIRS = "points 5;set ab;set ac;set ad;set ae;set bc;set bd;set be;set cd;set ce;set de;set abc;set abd;";

    public static void main(String[] args) {
        withSet();
        withoutGenerator();
        gentlest();
        spoiler();
        proof();
        listed();
        refusals();
        needs();
        spell();
        count();
        lastCall();
        end(44, 53);
    }

    private static UnionFamilies listing(String text, int... sets) {
        UnionFamilies x = of(text);
        for (int set : sets) {
            x.list(set);
        }
        return x;
    }

    private static void withSet() {
        edge(44, "(though there are 12)", () -> {
            UnionFamilies x = of(PAIRS);
            due("twelve", x.count(1), 12);
            due("it can't come", x.generate(A), NONE);
            int size = x.family(0);
            stays(x, "but were it there, it would be one more", () -> x.withSet(A), size + 1);
            stays(x, "one of the twelve", () -> x.withSet(A | B), size);
        });
        edge(44, "How many MEMBERS there were, did a SET come to GENERATORS", () -> {
            due("to none", new UnionFamilies().withSet(15), 2);
            due("told already", of("set a;").withSet(A), 2);
            due("a MEMBER", of("set a;set b;").withSet(A | B), 4);
            due("all SETS", of("points 7;set a;set b;set c;set d;set e;set f;").withSet(G), 128);
            due("all SETS are there", of(ALL_SETS).withSet(127), 128);
            due("all POINTS", of("points 7;set a;").withSet(127), 3);
        });
        edge(44, "NONE: it is empty", () -> {
            UnionFamilies x = of("set a;");
            refused(x, "withSet(0)", () -> x.withSet(0));
        });
        edge(44, "of other POINTS", () -> {
            for (int n = 1; n <= 7; n++) {
                UnionFamilies x = of("points " + n + ";");
                int above = 1 << n;
                refused(x, "one above " + n, () -> x.withSet(above));
                refused(x, "one above and a", () -> x.withSet(above | A));
                due("all of " + n, x.withSet(above - 1), 2);
            }
            UnionFamilies x = of("points 7;");
            refused(x, "withSet(-1)", () -> x.withSet(-1));
            refused(x, "withSet(least)", () -> x.withSet(LEAST));
            refused(x, "withSet(least and a)", () -> x.withSet(LEAST | A));
            refused(x, "withSet(greatest)", () -> x.withSet(GREATEST));
        });
    }

    private static void withoutGenerator() {
        edge(45, "How many MEMBERS there were, were a GENERATOR not there.", () -> {
            due("the only one", of("set abcd;").withoutGenerator(0), 1);
            due("an IDLE one", of("set a;set b;set ab;").withoutGenerator(2), 4);
            due("the first", of("set a;set b;set ab;").withoutGenerator(0), 3);
            due("of all SETS", of(ALL_SETS).withoutGenerator(6), 64);
            UnionFamilies two = of("set a;set b;set cd;");
            due("the last", two.withoutGenerator(2), 4);
            due("the first behind it", two.withoutGenerator(0), 4);
            due("the last again", two.withoutGenerator(2), 4);
            UnionFamilies x = of(PAIRS);
            stays(x, "the 12th, that is IDLE", () -> x.withoutGenerator(11), x.family(0));
        });
        edge(45, "NONE: no such one.", () -> {
            UnionFamilies x = of("set a;set b;");
            refused(x, "withoutGenerator(2)", () -> x.withoutGenerator(2));
            refused(x, "withoutGenerator(-1)", () -> x.withoutGenerator(-1));
            refused(x, "withoutGenerator(least)", () -> x.withoutGenerator(LEAST));
            refused(x, "withoutGenerator(greatest)", () -> x.withoutGenerator(GREATEST));
            due("the last", x.withoutGenerator(1), 2);
            UnionFamilies none = new UnionFamilies();
            refused(none, "withoutGenerator(0) of none", () -> none.withoutGenerator(0));
            UnionFamilies full = of(TWELVE);
            refused(full, "withoutGenerator(12) of 12", () -> full.withoutGenerator(12));
        });
    }

    private static void gentlest() {
        edge(46, "The SET, not empty, that is no MEMBER and would bring fewest MEMBERS more", () -> {
            due("of none", new UnionFamilies().gentlest(), A);
            // 0, a, b, ab: c would bring four, ac and bc two, abc one.
            due("the last one in order", of("points 3;set a;set b;").gentlest(), A | B | C);
            due("a is a MEMBER", of("points 2;set a;").gentlest(), B | A);
            due("the last that lacks", of("points 2;set b;set ab;").gentlest(), A);
        });
        edge(46, "of several the first in order", () -> {
            // 0, ab, ac, bc, abc: a, b, c would bring one each.
            due("a of a, b, c", of("points 3;set ab;set ac;set bc;").gentlest(), A);
            // 0, c, abc: ab, ac, bc would bring one each; a, b would bring two.
            due("ab of ab, ac, bc", of("points 3;set c;set abc;").gentlest(), A | B);
            // 0, b, ad, bd, abd: d and ab would bring one each, a two, c five.
            due("d by its SIZE ahead of ab", of("set b;set bd;set ad;").gentlest(), D);
        });
        edge(46, "-2: all SETS are MEMBERS", () -> {
            due("of one POINT", of("points 1;set a;").gentlest(), LACKS);
            due("of four", of("set a;set b;set c;set d;").gentlest(), LACKS);
            due("of seven", of(ALL_SETS).gentlest(), LACKS);
            due("all but one", of("points 2;set a;set ab;").gentlest(), B);
            due("one POINT, none told", of("points 1;").gentlest(), A);
        });
    }

    private static void spoiler() {
        edge(47, "The SET, not empty, that would make fewest POINTS FREQUENT", () -> {
            due("of none: one POINT", new UnionFamilies().spoiler(), A);
            // 0, bc: with a all three are in half; with b: 0, b, bc, b alone.
            due("not a", of("points 3;set bc;").spoiler(), B);
            due("the last POINT", of("points 7;set g;").spoiler(), G);
            // 0, a, bc, abc: all three are in half; with b there are 6, and c is in 2 of these.
            due("b, that makes c rare", of("set a;set bc;").spoiler(), B);
        });
        edge(47, "of several the first in order (MEMBERS, too)", () -> {
            // 0, c, abc: c is in half, and told again it changes nothing; with a or b there are two.
            due("a MEMBER", of("points 3;set c;set abc;").spoiler(), C);
            // 0, ab: with a or b there is one.
            due("a ahead of b", of("points 3;set ab;").spoiler(), A);
            due("all are MEMBERS", of(ALL_SETS).spoiler(), A);
        });
        edge(47, "-2 never", () -> {
            due("one POINT", of("points 1;").spoiler(), A);
            due("one POINT, told", of("points 1;set a;").spoiler(), A);
            due("all SETS", of("points 2;set a;set b;").spoiler(), A);
            due("the TOP has all", of("points 7;set abcdefg;").spoiler() > 0, true);
        });
    }

    private static void proof() {
        edge(48, "The least sum of WEIGHTS (0 .. 2 each, not all 0, one for each POINT)", () -> {
            // 0, a, b, ab, abc: c can't, b can.
            due("one of them 1, the others 0", of("points 3;set a;set b;set abc;").proof(), 10);
            due("a digit for each of seven", of("points 7;set a;").proof(), 1000000);
            due("of one POINT", of("points 1;set a;").proof(), 1);
        });
        edge(48, "by which they would PROVE", () -> {
            // 0, a, ab, abc, abcd: a is in 4 of 5, b in 3, c in 2, d in 1.
            due("b, not c or d", of("set a;set ab;set abc;set abcd;").proof(), 100);
            // 0, d, cd, bcd: c is in just half.
            due("c or d, but d is later", of("set d;set cd;set bcd;").proof(), 1);
            due("just half", of("set c;set cd;set bcd;").proof(), 1);
        });
        edge(48, "(those that are told do not matter)", () -> {
            due("told 0", of("weight a 0;set a;").proof(), 1000);
            UnionFamilies x = of("weight d 9;set a;set ab;set abcd;");
            stays(x, "told 9", () -> x.proof(), 100);
        });
        edge(48, "of these the first row (by POINTS): as digits, the first POINT's first", () -> {
            due("0001 ahead of 1000", of("set abcd;").proof(), 1);
            due("0100 ahead of 1000", of("set ab;").proof(), 100);
            due("all SETS", of(ALL_SETS).proof(), 1);
        });
        edge(48, "-2: by none, the TOP is empty.", () -> {
            due("at first", new UnionFamilies().proof(), LACKS);
            due("of one POINT", of("points 1;").proof(), LACKS);
            due("of seven", of("points 7;weight a 9;").proof(), LACKS);
            UnionFamilies x = of("set a;");
            x.drop(0);
            due("all went", x.proof(), LACKS);
        });
    }

    private static void listed() {
        edge(49, "NONE: no such one.", () -> {
            UnionFamilies x = new UnionFamilies();
            due("of none", x.listed(0), NONE);
            due("of none", x.listed(-1), NONE);
            x.list(B);
            due("the first", x.listed(0), B);
            due("listed(1)", x.listed(1), NONE);
            due("listed(-1)", x.listed(-1), NONE);
            due("listed(least)", x.listed(LEAST), NONE);
            due("listed(greatest)", x.listed(GREATEST), NONE);
            x.strike(0);
            due("what went", x.listed(0), NONE);
            UnionFamilies full = of("points 5;");
            for (int set = 1; set <= 20; set++) {
                full.list(set);
            }
            due("the 20th", full.listed(19), 20);
            due("a 21st", full.listed(20), NONE);
        });
    }

    private static void refusals() {
        edge(50, "0 the place of the first, 1 of the second of that pair, 2 the union that lacks", () -> {
            UnionFamilies x = listing("", A, B);
            due("the first", x.refused(0), 0);
            due("the second", x.refused(1), 1);
            due("the union", x.refused(2), A | B);
            x = listing("", A, A | B, A | B | C, C, B);
            due("the first", x.refused(0), 0);
            due("the second", x.refused(1), 3);
            due("the union", x.refused(2), A | C);
            x = listing("", 15, A | B | C, A, B);
            due("the last two", x.refused(0), 2);
            due("the last two", x.refused(1), 3);
            due("the last two", x.refused(2), A | B);
            UnionFamilies full = of("points 5;");
            for (int set = 0; set < 16; set++) {
                full.list(E | set);
            }
            full.list(A | B | C | D);
            full.list(A | B | C);
            full.list(A);
            due("20", full.list(B), 20);
            due("the last two of 20", full.refused(0), 18);
            due("the last two of 20", full.refused(1), 19);
            due("the last two of 20", full.refused(2), A | B);
            due("GENERATORS do not matter", listing("set ab;", A, B).refused(2), A | B);
        });
        edge(50, "-2: it is not", () -> {
            for (int what = 0; what <= 2; what++) {
                due("of none", new UnionFamilies().refused(what), LACKS);
                due("of one", listing("", A).refused(what), LACKS);
                due("a row", listing("", A, A | B, 15).refused(what), LACKS);
                due("the union is told first", listing("", A | B, A, B).refused(what), LACKS);
                due("the union is told last", listing("", A, B, A | B).refused(what), LACKS);
            }
        });
        edge(50, "NONE for others.", () -> {
            due("3", listing("", A, B).refused(3), NONE);
            due("-1", listing("", A, B).refused(-1), NONE);
            due("the least", listing("", A, B).refused(LEAST), NONE);
            due("the greatest", listing("", A, B).refused(GREATEST), NONE);
            due("3, not refused", new UnionFamilies().refused(3), NONE);
            due("-1, not refused", new UnionFamilies().refused(-1), NONE);
        });
    }

    private static void needs() {
        edge(51, "NEEDS.", () -> {
            due("of none", new UnionFamilies().needs(), 0);
            due("of one", listing("", 15).needs(), 0);
            due("of a row", listing("", A, A | B, 15).needs(), 0);
            due("one", listing("", A, B).needs(), 1);
            due("one that is on it", listing("", A, B, A | B).needs(), 0);
            due("those that others need", listing("", A, B, C).needs(), 4);
            due("more than a LIST can have", listing("points 7;", A, B, C, D, E, F, G).needs(), 120);
            UnionFamilies full = listing("points 5;", A, B, C, D, E);
            for (int set = 1; full.count(2) < 20; set++) {
                full.list(set);
            }
            due("of 20", full.needs(), 11);
        });
    }

    private static void spell() {
        edge(52, "WEIGHTS (those that are not 1)", () -> {
            due("none", spelled(new UnionFamilies()), "points 4;");
            due("0", spelled(of("weight a 0;")), "points 4;weight a 0;");
            due("2 and 9", spelled(of("weight d 9;weight b 2;weight c 1;")), "points 4;weight b 2;weight d 9;");
            UnionFamilies x = of("weight a 5;");
            x.weigh(0, 1);
            due("1 again", spelled(x), "points 4;");
        });
        edge(52, "(letters rising), one blank between WORDS, LETTERS, N, none else, no line ends", () -> {
            due("told otherwise", spelled(of("\npoints\n 7 ;\n set  gca ;weight  g  0\n;set b;")), "points 7;weight g 0;set acg;set b;");
            due("one POINT", spelled(of("points 1;set a;")), "points 1;set a;");
        });
        edge(52, "i NONE how many bytes", () -> {
            due("at first", new UnionFamilies().spell(NONE), 9);
            due("a GENERATOR more", of("set ab;").spell(NONE), 16);
            due("the longest", longest().spell(NONE), 215);
        });
        edge(52, "0 on: the i-th", () -> {
            due("the first", new UnionFamilies().spell(0), 'p');
            due("the last", new UnionFamilies().spell(8), ';');
            due("the longest, its last", longest().spell(214), ';');
            due("the longest, told again", tell(new UnionFamilies(), spelled(longest())), 12);
        });
        edge(52, "-2: there are not so many", () -> {
            due("one too many", new UnionFamilies().spell(9), LACKS);
            due("the greatest", new UnionFamilies().spell(GREATEST), LACKS);
            due("the longest", longest().spell(215), LACKS);
            UnionFamilies x = of("set ab;");
            due("set ab", x.spell(9), 's');
            x.drop(0);
            due("what was spelled ahead", x.spell(9), LACKS);
            due("what was spelled ahead", x.spell(NONE), 9);
        });
        edge(52, "NONE: i below NONE.", () -> {
            due("-2", new UnionFamilies().spell(-2), NONE);
            due("the least", new UnionFamilies().spell(LEAST), NONE);
        });
    }

    private static UnionFamilies longest() {
        return of("points 7;weight a 2;weight b 2;weight c 2;weight d 2;weight e 2;weight f 2;weight g 2;"
            + "set abcdefg;set bcdefg;set acdefg;set abdefg;set abcefg;set abcdfg;set abcdeg;set abcdef;"
            + "set cdefg;set bdefg;set bcefg;set bcdfg;");
    }

    private static void count() {
        String[] words = {"0 POINTS", "1 GENERATORS", "2 SETS of the LIST", "3 ACTS that can be undone", "4 bytes of the tape",
            "5 IDLE GENERATORS", "6 all WEIGHTS together"};
        int[] atFirst = {4, 0, 0, 0, 0, 0, 4};
        int[] full = {7, 12, 20, 12, 300, 4, 63};
        for (int what = 0; what < words.length; what++) {
            int asked = what;
            edge(53, words[what], () -> {
                due("count(" + asked + ") at first", new UnionFamilies().count(asked), atFirst[asked]);
                due("count(" + asked + ") of what is full", fullOfAll().count(asked), full[asked]);
            });
        }
        edge(53, "NONE for others.", () -> {
            due("7", new UnionFamilies().count(7), NONE);
            due("-1", new UnionFamilies().count(-1), NONE);
            due("the least", new UnionFamilies().count(LEAST), NONE);
            due("the greatest", new UnionFamilies().count(GREATEST), NONE);
            due("7, all is full", fullOfAll().count(7), NONE);
        });
    }

    /** As many of all things as there can be; of its GENERATORS ab, ac, bc, abc are IDLE. */
    private static UnionFamilies fullOfAll() {
        UnionFamilies x = of("points 7;weight a 9;weight b 9;weight c 9;weight d 9;weight e 9;weight f 9;weight g 9;"
            + "set ab;set a;set b;set c;set ac;set bc;set de;set df;set dg;set ef;set eg;set abc;");
        for (int set = 1; set <= 20; set++) {
            x.list(set);
        }
        for (int i = 0; i < 15; i++) {
            x.feed(0, 0, 0, 0, 0);
        }
        return x;
    }

    /** "An object is used for at most 512 calls": the last of these is answered like others. */
    private static void lastCall() {
        UnionFamilies x = new UnionFamilies();
        for (int i = 0; i < 255; i++) {
            x.generate(A);
            x.undo();
        }
        due("the 511th call", x.generate(B), 0);
        due("the 512th call", x.family(1), B);
    }
}
