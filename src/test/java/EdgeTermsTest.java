/** The edges that the document's "Terms" name, each with a test of its own. */
public final class EdgeTermsTest extends Edges {
    public static void main(String[] args) {
        pointsAndSets();
        generatorsAndWeights();
        clauses();
        gaps();
        faultsAtFirstBytes();
        faultsAtOtherPlaces();
        theFamily();
        frequencies();
        innerAndHull();
        covering();
        shattering();
        theList();
        acts();
        end(TERMS, TERMS);
    }

    private static void pointsAndSets() {
        edge(TERMS, "POINTS: the first n small letters (n 1 .. 7; 4 at first)", () -> {
            due("POINTS at first", new UnionFamilies().count(0), 4);
            for (int n = 1; n <= 7; n++) {
                UnionFamilies x = of("points " + n + ";");
                due("POINTS told " + n, x.count(0), n);
                due("all of " + n, x.generate((1 << n) - 1), 0);
                due("one above " + n, x.generate(1 << n), NONE);
            }
            fault("points 0;", 7);
            fault("points 8;", 7);
        });
        edge(TERMS, "SETS are ordered by SIZE, of alike ones by bits.", () -> {
            due("SIZE ahead of bits", membersOf(of("set ab;set d;")), ",d,ab,abd");
            due("bits of alike ones", membersOf(of("set c;set a;")), ",a,c,ac");
            due("ad is behind bc", membersOf(of("set ad;set bc;")), ",bc,ad,abcd");
        });
    }

    private static void generatorsAndWeights() {
        edge(TERMS, "(at most 12)", () -> {
            UnionFamilies x = of("points 5;");
            for (int g = 0; g < 12; g++) {
                due("generate", x.generate(g + 1), g);
            }
            due("a 13th", x.generate(13), NONE);
            due("how many", x.count(1), 12);
        });
        edge(TERMS, "SETS, not empty, no two the same", () -> {
            UnionFamilies x = of("set ab;");
            due("empty", x.generate(0), NONE);
            due("the same", x.generate(A | B), NONE);
            due("how many", x.count(1), 1);
        });
        edge(TERMS, "(0 .. 9 each; 1 at first)", () -> {
            UnionFamilies x = of("points 7;");
            for (int p = 0; p < 7; p++) {
                due("WEIGHT at first", x.point(p, 2), 1);
            }
            due("9", x.weigh(0, 9), 1);
            due("0", x.weigh(0, 0), 9);
            due("10", x.weigh(0, 10), NONE);
            due("-1", x.weigh(0, -1), NONE);
            due("what it is", x.point(0, 2), 0);
        });
    }

    private static void clauses() {
        edge(TERMS, "points ahead of all else, once at most (4 without)", () -> {
            stands("", "points 4;");
            stands("set d;", "points 4;set d;");
            fault("set e;", 4);
            stands("points 5;set e;", "points 5;set e;");
            fault("points 5;points 5;", 9);
            fault("set a;points 5;", 6);
            fault("weight a 2;points 5;", 11);
        });
        edge(TERMS, "(each once, in any order)", () -> {
            stands("set dbca;", "points 4;set abcd;");
            stands("set ca;set b;", "points 4;set ac;set b;");
            fault("set aa;", 4);
            fault("set abca;", 4);
        });
        edge(TERMS, "WORDS, LETTERS are small letters as far as they go on, L one alone, N one digit.", () -> {
            fault("sets a;", 0);
            fault("sett a;", 0);
            fault("setz a;", 0);
            fault("bet a;", 0);
            fault("joints 3;", 0);
            fault("height a 1;", 0);
            fault("se t a;", 0);
            fault("se", 0);
            fault("point 3;", 0);
            fault("pointss 3;", 0);
            fault("weigh a 1;", 0);
            fault("weightt a 1;", 0);
            fault("SET a;", 0);
            fault("sEt a;", 0);
            fault("set aB;", 5);
            fault("set A;", 4);
            fault("weight ab 2;", 7);
            stands("weight d 2;", "points 4;weight d 2;");
            fault("weight a 22;", 10);
            fault("points a;", 7);
            // Signs beside those of small letters and of digits.
            fault("set `;", 4);
            fault("set {;", 4);
            fault("points /;", 7);
            fault("points :;", 7);
            fault("weight a /;", 9);
            fault("weight a :;", 9);
        });
    }

    private static void gaps() {
        edge(TERMS, "Blanks (32), line ends (10) where one likes", () -> {
            stands("   \n\n ", "points 4;");
            stands(" \npoints \n 5 \n ; \n weight \n e \n 2 \n ; \n set \n ab \n ; \n ", "points 5;weight e 2;set ab;");
            stands("points\n5;weight\ne\n2;set\nab;", "points 5;weight e 2;set ab;");
            stands("set a;set b;", "points 4;set a;set b;");
            fault("set a;\tset b;", 6);
            fault("set a;\rset b;", 6);
            fault("set\ta;", 3);
            fault("set a;" + (char) 11, 6);
            fault("set a;" + (char) 9, 6);
            fault("set a;" + (char) 31, 6);
            fault("set a;" + (char) 33, 6);
            fault("set a;" + (char) 0, 6);
            fault("set a;" + (char) 160, 6);
        });
        edge(TERMS, "one at least between two WORDS, LETTERS, or these and N (else the second one can't stand there)", () -> {
            fault("seta;", 0);
            fault("weighta 1;", 0);
            fault("points3;", 6);
            fault("weight a1;", 8);
            fault("weight1;", 6);
            stands("points 3;weight a 2;set a;", "points 3;weight a 2;set a;");
        });
    }

    private static void faultsAtFirstBytes() {
        edge(TERMS, "FAULT: the first byte that can't stand there", () -> {
            fault("#", 0);
            fault(";", 0);
            fault("7", 0);
            fault("  ;", 2);
            fault("set a;;", 6);
            fault("set a#", 5);
            fault("set a b;", 6);
            fault("set;", 3);
            fault("set ;", 4);
            fault("set 3;", 4);
            fault("set1;", 3);
            fault("set a1;", 5);
            fault("points;", 6);
            fault("points ;", 7);
            fault("weight;", 6);
            fault("weight ;", 7);
            fault("weight 1;", 7);
            fault("weight a;", 8);
            fault("weight a ;", 9);
            fault("weight a b;", 9);
            fault("weight a 1b;", 10);
            fault("points 3a;", 8);
            fault("points -1;", 7);
            // Of two of them the first one is told.
            fault("set e;set e;#", 4);
            fault("set a;#points 9;", 6);
            fault("points 3;set ab;set e;x", 20);
        });
        edge(TERMS, "of WORDS, LETTERS, L, N their first one", () -> {
            fault("  x", 2);
            fault("  pointx 3;", 2);
            fault("set  abcde;", 5);
            fault("weight  ab 1;", 8);
            fault("points  8;", 8);
        });
        edge(TERMS, "also a POINT that there is not", () -> {
            fault("points 3;set d;", 13);
            fault("points 3;set abcd;", 13);
            stands("points 3;set abc;", "points 3;set abc;");
            fault("points 1;set b;", 13);
            fault("points 7;set h;", 13);
            fault("points 7;set z;", 13);
            stands("points 7;set g;", "points 7;set g;");
            fault("points 3;weight d 2;", 16);
            stands("points 3;weight c 2;", "points 3;weight c 2;");
            fault("weight e 2;", 7);
            fault("weight z 2;", 7);
        });
        edge(TERMS, "one twice in LETTERS", () -> {
            fault("set aba;", 4);
            fault("set abb;", 4);
            fault("set dd", 4);
            fault("points 7;set abcdefga;", 13);
        });
        edge(TERMS, "a GENERATOR told already", () -> {
            fault("set ab;set ab;", 11);
            fault("set ab;set ba;", 11);
            fault("set a;set b;set a", 16);
            stands("set a;set ab;set b;", "points 4;set a;set ab;set b;");
        });
        edge(TERMS, "N out of bounds", () -> {
            fault("points 0;", 7);
            fault("points 8;", 7);
            fault("points 9;", 7);
            fault("points 85;", 7);
            stands("points 1;", "points 1;");
            stands("points 7;", "points 7;");
            stands("weight a 0;weight b 9;", "points 4;weight a 0;weight b 9;");
        });
    }

    private static void faultsAtOtherPlaces() {
        edge(TERMS, "a 13th GENERATOR at its WORD", () -> {
            int size = TWELVE.length();
            due("twelve", of(TWELVE).count(1), 12);
            fault(TWELVE + "set cd;", size);
            fault(TWELVE + "\n set cd;", size + 2);
            fault(TWELVE + "set a;", size);
            fault(TWELVE + "set", size);
            fault(TWELVE + "set #", size);
            stands(TWELVE + "weight a 3;", TWELVE.replace("points 5;", "points 5;weight a 3;"));
        });
        edge(TERMS, "a second digit at itself", () -> {
            fault("points 33;", 8);
            fault("points 10;", 8);
            fault("weight a 12;", 10);
            fault("weight a 00;", 10);
            fault("points 3 3;", 9);
            fault("weight a 1 2;", 11);
        });
        edge(TERMS, "points in another place", () -> {
            fault("points 3;points 4;", 9);
            fault("points 3; points", 10);
            fault("set a;points 4;", 6);
            fault("weight a 1;points 4;", 11);
            fault("set a;points 9;", 6);
        });
        edge(TERMS, "the TEXT's length, if it ends too early", () -> {
            fault("points", 6);
            fault("points ", 7);
            fault("points 3", 8);
            fault("points 3 \n", 10);
            fault("weight", 6);
            fault("weight ", 7);
            fault("weight a", 8);
            fault("weight a ", 9);
            fault("weight a 1", 10);
            fault("weight a 1  ", 12);
            fault("set", 3);
            fault("set ", 4);
            fault("set a", 5);
            fault("set a ", 6);
            fault("set a;set", 9);
            // On a full tape, too.
            StringBuilder full = new StringBuilder("set a;set b");
            while (full.length() < 300) {
                full.append(' ');
            }
            fault(full.toString(), 300);
        });
    }

    private static void theFamily() {
        edge(TERMS, "that of none (the empty SET), too", () -> {
            due("of no GENERATORS", membersOf(new UnionFamilies()), "");
            due("how many", new UnionFamilies().family(0), 1);
            due("member(0)", new UnionFamilies().member(0), 0);
            due("of one", membersOf(of("set abcd;")), ",abcd");
            due("of all SETS", of(ALL_SETS).family(0), 128);
        });
        edge(TERMS, "TOP: the last one, the union of all.", () -> {
            due("of none", new UnionFamilies().family(1), 0);
            due("of two", of("set ab;set c;").family(1), A | B | C);
            due("of all", of(ALL_SETS).family(1), 127);
            UnionFamilies x = of("set ab;set c;");
            due("the last one", x.member(x.family(0) - 1), x.family(1));
        });
        edge(TERMS, "MEMBERS, not empty, that are no union of lesser MEMBERS within them.", () -> {
            due("of none", new UnionFamilies().family(2), 0);
            due("the empty SET is not", of("set a;").based(0), A);
            due("the empty SET is not", of("set a;").family(2), 1);
            // abc has a, ab within it, but is no union of these; abcd is ab and cd.
            UnionFamilies x = of("set abcd;set abc;set ab;set a;set cd;");
            due("how many", x.family(2), 4);
            due("the last one", x.based(3), A | B | C);
        });
        edge(TERMS, "A GENERATOR is IDLE, if it is not of the BASIS.", () -> {
            UnionFamilies x = of("set a;set b;set ab;set abc;");
            due("a", x.generator(0, 1), 0);
            due("ab", x.generator(2, 1), 1);
            due("abc", x.generator(3, 1), 0);
            due("one alone", of("set abcd;").generator(0, 1), 0);
        });
    }

    private static void frequencies() {
        edge(TERMS, "if that is half of all MEMBERS or more", () -> {
            // 0, a, b, ab: just half.
            due("2 of 4", of("set a;set b;").point(0, 1), 1);
            // 0, a, ab: 1 of 3 and 2 of 3.
            due("1 of 3", of("set a;set ab;").point(1, 1), 0);
            due("2 of 3", of("set a;set ab;").point(0, 1), 1);
            // 0, a, b, ab, abc: 1 of 5, 3 of 5.
            due("1 of 5", of("set a;set b;set abc;").point(2, 1), 0);
            due("3 of 5", of("set a;set b;set abc;").point(0, 1), 1);
            // 0, a, ab, abc, abcd: 2 of 5 is below half.
            due("2 of 5", of("set a;set ab;set abc;set abcd;").point(2, 1), 0);
            due("1 of 2", of("set a;").point(0, 1), 1);
            due("0 of 1", new UnionFamilies().point(0, 1), 0);
            due("0 of 2", of("set a;").point(1, 1), 0);
        });
        edge(TERMS, "TWINS: two POINTS of the TOP that are in the same MEMBERS.", () -> {
            due("not of the TOP", of("set ab;").point(2, 4), LACKS);
            due("of none", new UnionFamilies().point(0, 4), LACKS);
            due("two", of("set ab;").point(0, 4), 1);
            due("as many, but others", of("set a;set b;").point(0, 4), LACKS);
            due("one is in more", of("set a;set ab;").point(0, 4), LACKS);
            due("one is in fewer", of("set a;set ab;").point(1, 4), LACKS);
        });
        edge(TERMS, "is half of MASS of the TOP times how many they are, or more, and that is above 0", () -> {
            // 0, a, ab: MASS of all 2 a + b, of the TOP a + b; 4 a + 2 b are to be 3 a + 3 b, or more.
            UnionFamilies x = of("weight a 4;weight b 4;set a;set ab;");
            due("just half", x.family(9), 1);
            x.weigh(1, 5);
            due("below", x.family(9), 0);
            x.weigh(0, 5);
            due("just half", x.family(9), 1);
            x.weigh(1, 4);
            due("above", x.family(9), 1);
            x.weigh(0, 0);
            x.weigh(1, 0);
            due("all 0", x.family(9), 0);
            due("what is not of the TOP", of("weight a 0;set a;").family(9), 0);
            due("the empty TOP", new UnionFamilies().family(9), 0);
        });
    }

    private static void innerAndHull() {
        edge(TERMS, "INNER of a SET: the greatest MEMBER within it (the union of all within it).", () -> {
            due("none but the empty one", of("set ab;").inner(A), 0);
            due("itself", of("set ab;").inner(A | B), A | B);
            due("of all", of("set a;set bc;").inner(15), A | B | C);
            due("of the empty SET", of("set a;").inner(0), 0);
        });
        edge(TERMS, "(all POINTS, if there are none)", () -> {
            due("off the TOP", of("points 5;set ab;").hull(C), 31);
            due("in part", of("points 5;set ab;").hull(A | C), 31);
            due("of one POINT", of("points 1;").hull(A), 1);
            due("of seven", of("points 7;").hull(A), 127);
            due("the TOP is one", of("points 5;set ab;").hull(A | B), A | B);
            due("of the empty SET", of("points 5;set ab;").hull(0), 0);
        });
        edge(TERMS, "of each what is in that SET: unlike ones.", () -> {
            // 0, a, b, ab have in a: nothing, a, nothing, a.
            due("in a", of("set a;set b;").trace(A, NONE), 2);
            due("in the empty SET", of("set a;set b;").trace(0, NONE), 1);
            due("in all", of("set a;set b;").trace(15, NONE), 4);
            due("off the TOP", of("set a;set b;").trace(C | D, NONE), 1);
        });
        edge(TERMS, "LINK of a POINT: MEMBERS with it. REST of a POINT: MEMBERS without it.", () -> {
            due("LINK of none", new UnionFamilies().part(0, true, 0), 0);
            due("REST of all", new UnionFamilies().part(0, false, 0), 1);
            due("LINK", of("set a;set ab;").part(1, true, 0), 1);
            due("REST", of("set a;set ab;").part(1, false, 0), 2);
        });
    }

    private static void covering() {
        edge(TERMS, "A MEMBER COVERS another one, if that is within it, unlike, and no third one is between.", () -> {
            UnionFamilies x = of("set a;set ab;set abc;set d;");
            // 0, a, d, ab, ad, abc, abd, abcd.
            due("a covers the empty SET", x.covers(1, 0), 1);
            due("itself", x.covers(1, 1), 0);
            due("the lesser one", x.covers(0, 1), 0);
            due("a is between", x.covers(3, 0), 0);
            due("not within", x.covers(3, 2), 0);
            due("two POINTS more", of("set a;set abc;").covers(2, 1), 1);
        });
        edge(TERMS, "HEIGHT: the most MEMBERS in a row, each within the next one, less 1.", () -> {
            due("of one", new UnionFamilies().family(5), 0);
            due("of two", of("set abcd;").family(5), 1);
            due("of all", of(ALL_SETS).family(5), 7);
            due("of a row", of("points 7;set a;set ab;set abc;set abcd;set abcde;set abcdef;set abcdefg;").family(5), 7);
        });
        edge(TERMS, "SPREAD: the most MEMBERS of which none is within another one.", () -> {
            due("of one", new UnionFamilies().family(6), 1);
            due("of a row", of("points 7;set a;set ab;set abc;set abcd;set abcde;set abcdef;set abcdefg;").family(6), 1);
            due("of all", of(ALL_SETS).family(6), 35);
            // 0, a, b, ab, ac, abc: two rows have all.
            due("of two rows", of("set a;set b;set ac;").family(6), 2);
            due("of three rows", of("set a;set b;set ac;set ad;").family(6), 3);
            due("of unlike SIZES", of("set ab;set ac;set bc;set d;").family(6), 4);
        });
        edge(TERMS, "JOIN of two MEMBERS is their union, MEET the INNER of what is in both.", () -> {
            UnionFamilies x = of("points 3;set ab;set bc;");
            // 0, ab, bc, abc: b is in both, but no MEMBER.
            due("JOIN", x.both(1, 2, 0), 3);
            due("MEET", x.both(1, 2, 1), 0);
            due("MEET of one with itself", x.both(2, 2, 1), 2);
            due("JOIN of one with itself", x.both(2, 2, 0), 2);
        });
    }

    private static void shattering() {
        edge(TERMS, "DEPTH: the most POINTS of a SET whose TRACE has all SETS within it.", () -> {
            due("of one MEMBER", new UnionFamilies().family(8), 0);
            due("of two", of("set abcd;").family(8), 1);
            due("of all", of(ALL_SETS).family(8), 7);
            // Of 0, ab, ac, bc, abc each two POINTS, not all three.
            due("of pairs", of("points 3;set ab;set ac;set bc;").family(8), 2);
        });
        edge(TERMS, "SHATTERED is a SET, if its TRACE has all SETS within it.", () -> {
            due("the empty SET", new UnionFamilies().shattered(0), 1);
            due("a POINT off the TOP", of("set a;").shattered(B), 0);
            due("a POINT of the TOP", of("set ab;").shattered(B), 1);
            due("three of four", of("set a;set ab;").shattered(A | B), 0);
            due("four of four", of("set a;set b;").shattered(A | B), 1);
            due("all of 128", of(ALL_SETS).shattered(127), 1);
        });
    }

    private static void theList() {
        edge(TERMS, "(at most 20, unlike; none at first; the empty one is not told)", () -> {
            UnionFamilies x = of("points 5;");
            due("at first", x.count(2), 0);
            due("the empty one", x.list(0), NONE);
            for (int set = 1; set <= 20; set++) {
                due("list", x.list(set), set);
            }
            due("a 21st", x.list(21), NONE);
            x.strike(19);
            due("one that is on it", x.list(1), NONE);
            due("one that is not", x.list(21), 20);
        });
        edge(TERMS, "REFUSED by the first pair (of the first told, then of the second) whose union is not on it", () -> {
            UnionFamilies x = listing(A, B, C, A | B);
            // a, c is ahead of b, c.
            due("the first", x.refused(0), 0);
            due("the second", x.refused(1), 2);
            x = listing(A | B, A, B, C);
            due("the first", x.refused(0), 0);
            due("the second", x.refused(1), 3);
            x = listing(15, A, C, B);
            due("of the first told", x.refused(0), 1);
            due("then of the second", x.refused(1), 2);
            due("none", listing().refused(0), LACKS);
            due("one", listing(A).refused(0), LACKS);
            due("two", listing(A, A | B).refused(0), LACKS);
            due("the empty SET does not lack", listing(A, B, A | B).refused(2), LACKS);
        });
        edge(TERMS, "NEEDS: how many SETS must come to it so that it is not.", () -> {
            due("of none", listing().needs(), 0);
            due("of one", listing(A).needs(), 0);
            due("not REFUSED", listing(A, B, A | B).needs(), 0);
            due("one lacks", listing(A, B).needs(), 1);
            due("what comes needs more", listing(A, B, C).needs(), 4);
        });
    }

    private static UnionFamilies listing(int... sets) {
        UnionFamilies x = new UnionFamilies();
        for (int set : sets) {
            x.list(set);
        }
        return x;
    }

    private static void acts() {
        edge(TERMS, "ACTS, of which the latest 12 can be undone", () -> {
            UnionFamilies x = new UnionFamilies();
            for (int weight = 2; weight <= 9; weight++) {
                x.weigh(0, weight);
            }
            for (int weight = 2; weight <= 5; weight++) {
                x.weigh(1, weight);
            }
            due("12 of 12", x.count(3), 12);
            x.weigh(2, 7);
            due("12 of 13", x.count(3), 12);
            for (int left = 11; left >= 0; left--) {
                due("undo", x.undo(), left);
            }
            due("a 13th", x.undo(), NONE);
            due("what is left", told(x), "points 4;weight a 2;");
        });
        edge(TERMS, "(text() forgets them; GENERATORS, WEIGHTS, POINTS, the LIST are as they were)", () -> {
            UnionFamilies x = of("points 3;weight b 2;set ab;");
            x.list(C);
            String before = state(x);
            x.generate(C);
            x.weigh(1, 0);
            x.list(A);
            x.undo();
            x.undo();
            x.undo();
            due("as they were", state(x), before);
            tell(x, "set a;");
            due("forgotten", x.count(3), 0);
            due("none can", x.undo(), NONE);
            due("what stands", told(x), "points 4;set a;");
        });
        edge(TERMS, "WERE: things are as they are but for what is told; nothing happens.", () -> {
            UnionFamilies x = of("points 3;weight b 2;set ab;set c;");
            x.list(A);
            // 0, c, ab, abc. With a: a, ac too, and b is in 2 of 6; with ac: ac alone.
            stays(x, "withSet(a)", () -> x.withSet(A), 6);
            stays(x, "withoutGenerator(0)", () -> x.withoutGenerator(0), 2);
            stays(x, "gentlest", () -> x.gentlest(), A | C);
            stays(x, "spoiler", () -> x.spoiler(), A);
            stays(x, "proof", () -> x.proof(), 1);
        });
        edge(TERMS, "Where NONE and -2 could both be told, it is NONE, if it is not told otherwise.", () -> {
            UnionFamilies x = new UnionFamilies();
            due("place of other POINTS, no MEMBER", x.place(16), NONE);
            due("no such POINT, no TWINS", x.point(4, 4), NONE);
            due("no such POINT, no MEMBER with it", x.point(4, 5), NONE);
            due("TRACE of other POINTS, not so many", x.trace(16, 5), NONE);
            due("LINK of no POINT, there are none", x.part(4, true, 1), NONE);
            due("LINK of no POINT, there are none", x.part(4, true, 2), NONE);
            due("fewest of other POINTS, no MEMBER", x.fewest(16), NONE);
            due("refused by another what, it is not", x.refused(3), NONE);
        });
    }
}
