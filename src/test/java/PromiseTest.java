/** For each promise of the document: ordinary inputs, the edges that it names, and wrong inputs. */
public final class PromiseTest {
    private static final int NONE = -1;
    private static final int LACKS = -2;
    private static final int A = 1;
    private static final int B = 2;
    private static final int C = 4;
    private static final int D = 8;
    private static final int E = 16;
    private static final String TWELVE = "points 5;set a;set b;set c;set d;set e;set ab;set ac;set ad;set ae;set bc;set bd;set be;";

    private static int wrong = 0;
    private static int asked = 0;

    public static void main(String[] args) {
        newObject();
        tape();
        texts();
        faults();
        textKeepsAndForgets();
        generators();
        weights();
        moves();
        withoutPoints();
        leanAndBasis();
        lists();
        undone();
        undoneEachKind();
        askedOfGenerators();
        membersInOrder();
        points();
        families();
        sizesAndMeans();
        innerAndHull();
        traces();
        partsOfPoints();
        coverings();
        joinsAndMeets();
        chains();
        commonAndRanked();
        nestedAndCrossing();
        fallingApart();
        shatteredSets();
        fewestGenerators();
        wereOtherwise();
        proofs();
        refusedLists();
        spelling();
        counts();
        System.out.println(asked + " answers asked, " + wrong + " are wrong");
        if (wrong != 0) {
            System.exit(1);
        }
    }

    private static void due(int promise, String call, long got, long want) {
        asked++;
        if (got != want) {
            wrong++;
            System.out.println("promise " + promise + ": " + call + " answered " + got + ", due is " + want);
        }
    }

    private static void due(int promise, String call, boolean got, boolean want) {
        due(promise, call, got ? 1 : 0, want ? 1 : 0);
    }

    private static void tellBytes(UnionFamilies x, String told) {
        StringBuilder padded = new StringBuilder(told);
        while (padded.length() % 20 != 0) {
            padded.append('#');
        }
        for (int i = 0; i < padded.length(); i += 20) {
            x.feed(word(padded, i), word(padded, i + 4), word(padded, i + 8), word(padded, i + 12), word(padded, i + 16));
        }
        x.back(padded.length() - told.length());
    }

    private static int word(CharSequence told, int at) {
        return told.charAt(at) << 24 | told.charAt(at + 1) << 16 | told.charAt(at + 2) << 8 | told.charAt(at + 3);
    }

    private static int tell(UnionFamilies x, String told) {
        tellBytes(x, told);
        return x.text();
    }

    private static UnionFamilies of(String told) {
        UnionFamilies x = new UnionFamilies();
        int got = tell(x, told);
        if (got < 0) {
            due(4, "text of '" + told + "'", got, 0);
        }
        return x;
    }

    private static String spelled(UnionFamilies x) {
        StringBuilder out = new StringBuilder();
        for (int i = 0; i < x.spell(NONE); i++) {
            out.append((char) x.spell(i));
        }
        return out.toString();
    }

    private static void dueText(int promise, UnionFamilies x, String want) {
        asked++;
        if (!spelled(x).equals(want)) {
            wrong++;
            System.out.println("promise " + promise + ": spelled is '" + spelled(x) + "', due is '" + want + "'");
        }
    }

    private static void newObject() {
        UnionFamilies x = new UnionFamilies();
        due(1, "count(0)", x.count(0), 4);
        due(1, "count(1)", x.count(1), 0);
        due(1, "count(2)", x.count(2), 0);
        due(1, "count(3)", x.count(3), 0);
        due(1, "count(4)", x.count(4), 0);
        due(1, "count(6)", x.count(6), 4);
        due(1, "family(0)", x.family(0), 1);
        due(1, "two objects share nothing", x.generate(A), 0);
        due(1, "two objects share nothing", new UnionFamilies().count(1), 0);
    }

    private static void tape() {
        UnionFamilies x = new UnionFamilies();
        for (int i = 1; i <= 15; i++) {
            due(2, "feed", x.feed(0x20202020, 0x20202020, 0x20202020, 0x20202020, 0x20202020), 20 * i);
        }
        due(2, "feed beyond 300", x.feed(0, 0, 0, 0, 0), NONE);
        due(2, "count(4)", x.count(4), 300);
        due(3, "back(1)", x.back(1), 299);
        due(2, "feed to 319", x.feed(0, 0, 0, 0, 0), NONE);
        due(3, "back(19)", x.back(19), 280);
        due(2, "feed to 300", x.feed(0x20202020, 0x20202020, 0x20202020, 0x20202020, 0x20202020), 300);
        due(3, "back(-1)", x.back(-1), NONE);
        due(3, "back(301)", x.back(301), NONE);
        due(3, "back(least)", x.back(Integer.MIN_VALUE), NONE);
        due(3, "back(0)", x.back(0), 300);
        due(4, "text of blanks", x.text(), 0);
        due(4, "the tape is empty", x.count(4), 0);
        due(3, "back(1) of none", x.back(1), NONE);
        x.feed(1, 2, 3, 4, 5);
        due(3, "back(21)", x.back(21), NONE);
        due(3, "back of all", x.back(20), 0);
        // The highest byte first, and bytes above 127 are bytes like others.
        x.feed(0x73657420, 0x613BFFFF, -1, -1, -1);
        due(2, "a byte of 255", x.text(), -4 - 6);
        x.feed(0x73657420, 0x613B2020, 0x20202020, 0x0A0A0A0A, 0x20202020);
        due(2, "bytes in order", x.text(), 1);
    }

    private static void texts() {
        UnionFamilies x = new UnionFamilies();
        due(4, "empty text", x.text(), 0);
        due(4, "text", tell(x, "points 5;weight e 0;set ecb;weight a 9;set a;weight e 3;"), 2);
        dueText(4, x, "points 5;weight a 9;weight e 3;set bce;set a;");
        due(4, "gaps", tell(x, "\n points\n\n3 ; set  ab\n; \nweight a\n2;\n"), 1);
        dueText(4, x, "points 3;weight a 2;set ab;");
        due(4, "without points", tell(x, "set abcd;"), 1);
        dueText(4, x, "points 4;set abcd;");
        due(4, "points 1", tell(x, "points 1;set a;"), 1);
        due(4, "points 7", tell(x, "points 7;set g;set gfedcba;"), 2);
        due(4, "twelve", tell(x, TWELVE), 12);
        due(4, "twelve and a weight", tell(x, TWELVE + "weight a 2;"), 12);
        due(4, "all anew", tell(x, ""), 0);
        dueText(4, x, "points 4;");
    }

    private static void fault(String told, int at) {
        UnionFamilies x = of("points 3;weight b 4;set ab;");
        x.list(A);
        int got = tell(x, told);
        due(4, "text of '" + told + "'", got, -4 - at);
        due(4, "the tape is empty behind '" + told + "'", x.count(4), 0);
        dueText(4, x, "points 3;weight b 4;set ab;");
        due(4, "acts stay behind '" + told + "'", x.count(3), 1);
        due(4, "the list stays behind '" + told + "'", x.count(2), 1);
    }

    private static void faults() {
        fault("#", 0);
        fault(" \t", 1);
        fault(";", 0);
        fault("1", 0);
        fault("se", 0);
        fault("sets a;", 0);
        fault("Set a;", 0);
        fault("setz a;", 0);
        fault("seta;", 0);
        fault("setA", 3);
        fault("points", 6);
        fault("points ", 7);
        fault("points3;", 6);
        fault("points;", 6);
        fault("points x;", 7);
        fault("points 0;", 7);
        fault("points 8;", 7);
        fault("points 9", 7);
        fault("points 12;", 8);
        fault("points 1 2;", 9);
        fault("points 3", 8);
        fault("points 3 \n", 10);
        fault("points 3;points 3;", 9);
        fault("set a;points 3;", 6);
        fault("weight a 1; points 4;", 12);
        fault("points 3;set d;", 13);
        fault("points 3;weight d 1;", 16);
        fault("set", 3);
        fault("set ", 4);
        fault("set;", 3);
        fault("set ;", 4);
        fault("set1;", 3);
        fault("set 1;", 4);
        fault("set e;", 4);
        fault("set abe;", 4);
        fault("set aba;", 4);
        fault("set z", 4);
        fault("set a b;", 6);
        fault("set a1;", 5);
        fault("set a", 5);
        fault("set ab;set ba;", 11);
        fault("set ab;;", 7);
        fault("set a;set", 9);
        fault("weight", 6);
        fault("weight ", 7);
        fault("weight;", 6);
        fault("weight 1;", 7);
        fault("weight a", 8);
        fault("weight a ", 9);
        fault("weight a;", 8);
        fault("weight a1;", 8);
        fault("weight a b;", 9);
        fault("weight a 1", 10);
        fault("weight a 1x", 10);
        fault("weight a 10;", 10);
        fault("weight a 1 0;", 11);
        fault("weight aa 1;", 7);
        fault("weight e 1;", 7);
        fault(TWELVE + "set de;", TWELVE.length());
        fault(TWELVE + "set;", TWELVE.length());
        fault(TWELVE + " set a;", TWELVE.length() + 1);
    }

    private static void textKeepsAndForgets() {
        UnionFamilies x = of("points 7;set abcdefg;");
        x.list(A);
        x.list(D | C);
        due(4, "the list stays", tell(x, "points 4;set a;"), 1);
        due(4, "count(2)", x.count(2), 2);
        due(4, "listed(1)", x.listed(1), D | C);
        due(4, "acts are forgotten", x.count(3), 0);
        due(17, "undo behind text", x.undo(), NONE);
        due(4, "points go", tell(x, "points 3;"), 0);
        due(4, "the list goes", x.count(2), 0);
        x = new UnionFamilies();
        x.list(D);
        x.list(A);
        due(4, "points go", tell(x, "points 3;"), 0);
        due(4, "the list goes for its first set", x.count(2), 0);
    }

    private static void generators() {
        UnionFamilies x = new UnionFamilies();
        due(5, "generate", x.generate(A | B), 0);
        due(5, "generate", x.generate(15), 1);
        due(5, "told already", x.generate(A | B), NONE);
        due(5, "empty", x.generate(0), NONE);
        due(5, "of other points", x.generate(E), NONE);
        due(5, "of other points", x.generate(A | E), NONE);
        due(5, "below 0", x.generate(Integer.MIN_VALUE), NONE);
        due(5, "count(3)", x.count(3), 2);
        dueText(5, x, "points 4;set ab;set abcd;");
        UnionFamilies full = of(TWELVE);
        due(5, "a 13th", full.generate(31), NONE);
        due(5, "count(1)", full.count(1), 12);

        x = of("set a;set b;set c;");
        due(6, "drop(3)", x.drop(3), false);
        due(6, "drop(-1)", x.drop(-1), false);
        due(6, "count(3)", x.count(3), 0);
        due(6, "drop(1)", x.drop(1), true);
        dueText(6, x, "points 4;set a;set c;");
        due(6, "drop(2)", x.drop(2), false);
        due(6, "drop(1)", x.drop(1), true);
        due(6, "drop(0)", x.drop(0), true);
        due(6, "drop(0)", x.drop(0), false);
        due(6, "family(0)", x.family(0), 1);

        x = of("set a;set bc;");
        due(7, "change", x.change(1, D), B | C);
        dueText(7, x, "points 4;set a;set d;");
        due(7, "told already", x.change(1, A), NONE);
        due(7, "it is so", x.change(0, A), NONE);
        due(7, "empty", x.change(0, 0), NONE);
        due(7, "of other points", x.change(0, E), NONE);
        due(7, "below 0", x.change(0, -8), NONE);
        due(7, "no such one", x.change(2, B), NONE);
        due(7, "no such one", x.change(-1, B), NONE);
        due(7, "count(3)", x.count(3), 1);
        due(7, "the family follows", x.place(A | D), 3);
    }

    private static void weights() {
        UnionFamilies x = new UnionFamilies();
        due(8, "weigh(1, 9)", x.weigh(1, 9), 1);
        due(8, "weigh(1, 0)", x.weigh(1, 0), 9);
        due(8, "it is so", x.weigh(1, 0), NONE);
        due(8, "it is so", x.weigh(0, 1), NONE);
        due(8, "10", x.weigh(0, 10), NONE);
        due(8, "-1", x.weigh(0, -1), NONE);
        due(8, "no such point", x.weigh(4, 2), NONE);
        due(8, "no such point", x.weigh(-1, 2), NONE);
        due(8, "count(3)", x.count(3), 2);
        due(8, "weigh(3, 5)", x.weigh(3, 5), 1);
        dueText(8, x, "points 4;weight b 0;weight d 5;");
    }

    private static void moves() {
        UnionFamilies x = of("weight a 3;set ab;set ac;set b;set cd;set bc;");
        due(9, "swap(0, 2)", x.swap(0, 2), 3);
        dueText(9, x, "points 4;weight a 3;set bc;set ac;set b;set ad;set ab;");
        due(9, "both are one", x.swap(1, 1), NONE);
        due(9, "no such points", x.swap(0, 4), NONE);
        due(9, "no such points", x.swap(-1, 0), NONE);
        due(9, "count(3)", x.count(3), 1);
        x = of("set abc;set d;");
        due(9, "none would", x.swap(0, 1), NONE);
        due(9, "swap(3, 0)", x.swap(3, 0), 2);
        dueText(9, x, "points 4;set bcd;set a;");
        x = of("set a;set b;");
        due(9, "these change places", x.swap(0, 1), 2);
        dueText(9, x, "points 4;set b;set a;");

        x = of("points 3;weight c 2;set a;set bc;set abc;");
        due(10, "turn", x.turn(), 2);
        dueText(10, x, "points 3;weight c 2;set b;set ac;set abc;");
        due(10, "turn", x.turn(), 2);
        dueText(10, x, "points 3;weight c 2;set c;set ab;set abc;");
        due(10, "count(3)", x.count(3), 2);
        x = of("points 7;set g;set abcdefg;");
        due(10, "turn", x.turn(), 1);
        due(10, "generator(0, 0)", x.generator(0, 0), A);
        x = of("points 1;set a;");
        due(10, "none would", x.turn(), NONE);
        due(10, "none would", new UnionFamilies().turn(), NONE);
        due(10, "count(3)", x.count(3), 0);
    }

    private static void withoutPoints() {
        UnionFamilies x = of("weight a 2;set a;set ab;set b;set acd;set cd;set abc;");
        due(11, "without(4)", x.without(4), NONE);
        due(11, "without(-1)", x.without(-1), NONE);
        due(11, "without(0)", x.without(0), 3);
        dueText(11, x, "points 4;weight a 2;set b;set cd;set bc;");
        due(11, "it is in none", x.without(0), NONE);
        due(11, "count(3)", x.count(3), 1);
        x = of("set d;");
        due(11, "all go", x.without(3), 0);
        due(11, "family(0)", x.family(0), 1);
    }

    private static void leanAndBasis() {
        UnionFamilies x = of("set abc;set ab;set a;set b;set cd;set abcd;");
        due(12, "lean", x.lean(), 2);
        dueText(12, x, "points 4;set abc;set a;set b;set cd;");
        due(12, "there are none", x.lean(), NONE);
        due(12, "count(3)", x.count(3), 1);
        due(12, "there are none", new UnionFamilies().lean(), NONE);

        x = of("set abc;set ab;set b;set a;set cd;set abcd;");
        int before = x.family(0);
        due(13, "basis", x.basis(), 4);
        dueText(13, x, "points 4;set a;set b;set cd;set abc;");
        due(13, "the family stays", x.family(0), before);
        due(13, "they are so", x.basis(), NONE);
        due(13, "count(3)", x.count(3), 1);
        x = of("set b;set a;");
        due(13, "in another order", x.basis(), 2);
        dueText(13, x, "points 4;set a;set b;");
        due(13, "none at all", new UnionFamilies().basis(), NONE);
    }

    private static void lists() {
        UnionFamilies x = of("points 5;set a;");
        due(14, "list", x.list(B), 1);
        due(14, "list", x.list(A | B), 2);
        due(14, "on it", x.list(B), NONE);
        due(14, "empty", x.list(0), NONE);
        due(14, "of other points", x.list(32), NONE);
        due(14, "below 0", x.list(-1), NONE);
        due(14, "count(3)", x.count(3), 2);
        for (int set = 4; set < 22; set++) {
            due(14, "list", x.list(set), set - 1);
        }
        due(14, "a 21st", x.list(22), NONE);
        due(14, "count(2)", x.count(2), 20);
        due(16, "more than 12", x.adopt(), NONE);

        due(15, "strike(20)", x.strike(20), NONE);
        due(15, "strike(-1)", x.strike(-1), NONE);
        due(15, "strike(0)", x.strike(0), 19);
        due(15, "listed(0)", x.listed(0), A | B);
        due(15, "strike(18)", x.strike(18), 18);
        due(15, "listed(17)", x.listed(17), 20);
        due(15, "listed(18)", x.listed(18), NONE);
        for (int i = 17; i >= 12; i--) {
            due(15, "strike", x.strike(2), i);
        }
        due(16, "adopt", x.adopt(), 12);
        due(16, "generator(0, 0)", x.generator(0, 0), A | B);
        due(16, "generator(11, 0)", x.generator(11, 0), 20);
        due(16, "count(2)", x.count(2), 12);
        due(16, "they are so", x.adopt(), NONE);

        x = of("set b;set a;");
        due(16, "empty", x.adopt(), NONE);
        x.list(A);
        x.list(B);
        due(16, "in another order", x.adopt(), 2);
        dueText(16, x, "points 4;set a;set b;");
        due(16, "count(3)", x.count(3), 3);
        x.change(0, C);
        due(16, "one alone is unlike", x.adopt(), 2);
        dueText(16, x, "points 4;set a;set b;");
    }

    private static void undone() {
        UnionFamilies x = new UnionFamilies();
        due(17, "none can", x.undo(), NONE);
        for (int set = 1; set <= 9; set++) {
            x.generate(set);
        }
        for (int p = 0; p < 4; p++) {
            x.weigh(p, 5);
        }
        due(17, "the latest 12", x.count(3), 12);
        for (int left = 11; left >= 0; left--) {
            due(17, "undo", x.undo(), left);
        }
        due(17, "none can", x.undo(), NONE);
        dueText(17, x, "points 4;set a;");
        due(17, "an act behind it", x.generate(D), 1);
        due(17, "count(3)", x.count(3), 1);
        due(17, "undo", x.undo(), 0);
        due(17, "the family follows", x.family(0), 2);
        // Undo brings nothing that can be undone, and refused calls bring nothing either.
        x.generate(B);
        x.generate(B);
        x.drop(7);
        due(17, "count(3)", x.count(3), 1);
        tellBytes(x, "set");
        due(17, "undo", x.undo(), 0);
        due(17, "the tape stays", x.count(4), 3);
    }

    private static void undoneEachKind() {
        String start = "points 4;weight b 2;set ab;set a;set b;set cd;";
        UnionFamilies x = of(start);
        x.list(C);
        x.list(C | D);
        due(17, "drop", x.drop(1), true);
        due(17, "change", x.change(0, 15), A | B);
        due(17, "weigh", x.weigh(0, 0), 1);
        due(17, "swap", x.swap(1, 2), 2);
        due(17, "turn", x.turn(), 2);
        due(17, "without", x.without(0), 3);
        due(17, "adopt", x.adopt(), 2);
        due(17, "strike", x.strike(0), 1);
        due(17, "generate", x.generate(A), 2);
        due(17, "count(3)", x.count(3), 11);
        x.undo();
        dueText(17, x, "points 4;weight a 0;weight b 2;set c;set cd;");
        x.undo();
        due(17, "listed(0)", x.listed(0), C);
        x.undo();
        dueText(17, x, "points 4;weight a 0;weight b 2;set bcd;set d;set c;");
        x.undo();
        dueText(17, x, "points 4;weight a 0;weight b 2;set abcd;set d;set ac;");
        x.undo();
        x.undo();
        x.undo();
        dueText(17, x, "points 4;weight b 2;set abcd;set b;set cd;");
        x.undo();
        x.undo();
        dueText(17, x, start);
        due(17, "count(2)", x.count(2), 2);
        due(17, "undo", x.undo(), 1);
        due(17, "undo", x.undo(), 0);
        due(17, "count(2)", x.count(2), 0);
        due(17, "lean", x.lean(), 1);
        due(17, "basis", x.basis(), NONE);
        x.undo();
        dueText(17, x, start);
        due(17, "basis", x.basis(), 3);
        x.undo();
        dueText(17, x, start);
    }

    private static void askedOfGenerators() {
        UnionFamilies x = of("set ab;set b;set a;set cd;");
        // Members: 0, a, b, ab, cd, acd, bcd, abcd.
        due(18, "generator(0, 0)", x.generator(0, 0), A | B);
        due(18, "generator(0, 1)", x.generator(0, 1), 1);
        due(18, "generator(0, 2)", x.generator(0, 2), 3);
        due(18, "generator(1, 1)", x.generator(1, 1), 0);
        due(18, "generator(1, 2)", x.generator(1, 2), 2);
        due(18, "generator(3, 2)", x.generator(3, 2), 4);
        due(18, "generator(4, 0)", x.generator(4, 0), NONE);
        due(18, "generator(-1, 0)", x.generator(-1, 0), NONE);
        due(18, "generator(0, 3)", x.generator(0, 3), NONE);
        due(18, "generator(0, -1)", x.generator(0, -1), NONE);
    }

    private static void membersInOrder() {
        UnionFamilies x = of("set cd;set ab;set b;set a;");
        int[] want = {0, A, B, A | B, C | D, A | C | D, B | C | D, 15};
        for (int k = 0; k < want.length; k++) {
            due(19, "member(" + k + ")", x.member(k), want[k]);
            due(20, "place(" + want[k] + ")", x.place(want[k]), k);
        }
        due(19, "member(8)", x.member(8), NONE);
        due(19, "member(-1)", x.member(-1), NONE);
        due(20, "place(c)", x.place(C), LACKS);
        due(20, "place(16)", x.place(16), NONE);
        due(20, "place(-1)", x.place(-1), NONE);
        due(21, "based(0)", x.based(0), A);
        due(21, "based(1)", x.based(1), B);
        due(21, "based(2)", x.based(2), C | D);
        due(21, "based(3)", x.based(3), NONE);
        due(21, "based(-1)", x.based(-1), NONE);
        // By size first, then by bits: d comes ahead of ab.
        x = of("points 5;set ab;set d;set abde;set bcd;");
        due(19, "member(1)", x.member(1), D);
        due(19, "member(2)", x.member(2), A | B);
        due(21, "based(0)", x.based(0), D);
        due(21, "based(3)", x.based(3), A | B | D | E);
        x = of("points 7;set a;set b;set c;set d;set e;set f;set g;");
        due(19, "member(127)", x.member(127), 127);
        due(19, "member(128)", x.member(128), NONE);
        due(20, "place(127)", x.place(127), 127);
        due(20, "place(128)", x.place(128), NONE);
    }

    private static void points() {
        UnionFamilies x = of("points 5;weight b 7;set ab;set abc;set d;");
        // Members: 0, d, ab, abc, abd, abcd.
        due(22, "point(0, 0)", x.point(0, 0), 4);
        due(22, "point(2, 0)", x.point(2, 0), 2);
        due(22, "point(3, 0)", x.point(3, 0), 3);
        due(22, "point(4, 0)", x.point(4, 0), 0);
        due(22, "point(0, 1)", x.point(0, 1), 1);
        due(22, "just half", x.point(3, 1), 1);
        due(22, "less than half", x.point(2, 1), 0);
        due(22, "point(1, 2)", x.point(1, 2), 7);
        due(22, "point(4, 2)", x.point(4, 2), 1);
        due(22, "point(1, 3)", x.point(1, 3), 2);
        due(22, "point(4, 3)", x.point(4, 3), 0);
        due(22, "point(0, 4)", x.point(0, 4), 1);
        due(22, "point(1, 4)", x.point(1, 4), 0);
        due(22, "point(2, 4)", x.point(2, 4), LACKS);
        due(22, "point(4, 4)", x.point(4, 4), LACKS);
        due(22, "point(2, 5)", x.point(2, 5), 3);
        due(22, "point(1, 5)", x.point(1, 5), 2);
        due(22, "point(3, 5)", x.point(3, 5), 1);
        due(22, "point(4, 5)", x.point(4, 5), LACKS);
        due(22, "point(5, 0)", x.point(5, 0), NONE);
        due(22, "point(-1, 0)", x.point(-1, 0), NONE);
        due(22, "point(5, 5)", x.point(5, 5), NONE);
        due(22, "point(0, 6)", x.point(0, 6), NONE);
        due(22, "point(0, -1)", x.point(0, -1), NONE);
        // Points that are in no member are no twins of one another; of several twins the first is told.
        x = of("points 6;set bcd;");
        due(22, "outside", x.point(0, 4), LACKS);
        due(22, "point(1, 4)", x.point(1, 4), 2);
        due(22, "point(3, 4)", x.point(3, 4), 1);
        // As often, but in other members.
        x = of("points 2;set a;set b;");
        due(22, "point(0, 4)", x.point(0, 4), LACKS);
    }

    private static void families() {
        UnionFamilies x = of("points 5;weight b 7;set d;set ab;set abc;");
        int[] want = {6, A | B | C | D, 3, A | B | D, 0, 3, 2, 7, 2, 1, 4 + 28 + 2 + 3, 2, 2};
        for (int what = 0; what < want.length; what++) {
            due(23, "family(" + what + ")", x.family(what), want[what]);
        }
        due(23, "family(13)", x.family(13), NONE);
        due(23, "family(-1)", x.family(-1), NONE);
        x = of("points 7;set a;set b;set c;set d;set e;set f;set g;");
        int[] all = {128, 127, 7, 127, 0, 7, 35, 448, 7, 1, 448, 7, 7};
        for (int what = 0; what < all.length; what++) {
            due(23, "all sets, family(" + what + ")", x.family(what), all[what]);
        }
        due(23, "DEPTH of one", new UnionFamilies().family(8), 0);
        // The greatest frequency is not the first point's, and that is not frequent.
        x = of("points 3;set bc;set c;");
        due(23, "family(3)", x.family(3), C);
        x = of("points 3;set abc;set c;set bc;");
        due(23, "family(3)", x.family(3), B | C);
        due(23, "family(4)", x.family(4), 2);
        // Weights of 0 prove nothing; weights off the top do not matter.
        x = of("points 3;weight a 0;set a;");
        due(23, "family(9)", x.family(9), 0);
        x.weigh(0, 1);
        due(23, "family(9)", x.family(9), 1);
        x.weigh(2, 9);
        due(23, "family(9)", x.family(9), 1);
        due(23, "family(10)", x.family(10), 1);
        // 0, a, b, ab, abc: just below half, at half, above it.
        x = of("points 3;set a;set b;set abc;");
        due(23, "family(9)", x.family(9), 0);
        due(23, "HEIGHT", x.family(5), 3);
        x.weigh(2, 0);
        due(23, "family(9)", x.family(9), 1);
        x.weigh(2, 2);
        due(23, "family(9)", x.family(9), 0);
        // A spread that is no row of one size: ab, ac, bc, d.
        x = of("set ab;set ac;set bc;set d;");
        due(23, "SPREAD", x.family(6), 4);
    }

    private static void sizesAndMeans() {
        UnionFamilies x = of("points 5;weight b 7;set ab;set abc;set d;");
        int[] want = {1, 1, 1, 2, 1, 0, 0, 0};
        for (int size = 0; size <= 7; size++) {
            due(24, "sized(" + size + ")", x.sized(size), want[size]);
        }
        due(24, "sized(8)", x.sized(8), NONE);
        due(24, "sized(-1)", x.sized(-1), NONE);
        due(25, "mean(0, false)", x.mean(0, false), 13);
        due(25, "mean(0, true)", x.mean(0, true), 6);
        due(25, "mean(1, false)", x.mean(1, false), 37);
        due(25, "mean(1, true)", x.mean(1, true), 6);
        x.weigh(1, 6);
        due(25, "in least terms", x.mean(1, false), 11);
        due(25, "in least terms", x.mean(1, true), 2);
        due(25, "mean(2, true)", x.mean(2, true), NONE);
        due(25, "mean(-1, false)", x.mean(-1, false), NONE);
        x = of("points 2;weight a 0;weight b 0;set a;set b;");
        due(25, "a mean of 0", x.mean(1, false), 0);
        due(25, "a mean of 0", x.mean(1, true), 1);
        due(25, "a whole mean", x.mean(0, false), 1);
        due(25, "a whole mean", x.mean(0, true), 1);

        x = of("weight a 3;weight c 0;set a;");
        due(26, "mass(0)", x.mass(0), 0);
        due(26, "mass(a)", x.mass(A), 3);
        due(26, "mass(c)", x.mass(C), 0);
        due(26, "mass(15)", x.mass(15), 5);
        due(26, "mass(16)", x.mass(16), NONE);
        due(26, "mass(-1)", x.mass(-1), NONE);
    }

    private static void innerAndHull() {
        UnionFamilies x = of("points 5;set ab;set bc;set d;");
        due(27, "inner(ab)", x.inner(A | B), A | B);
        due(27, "inner(ac)", x.inner(A | C), 0);
        due(27, "inner(abcd)", x.inner(15), 15);
        due(27, "inner(acde)", x.inner(A | C | D | E), D);
        due(27, "inner(abce)", x.inner(A | B | C | E), A | B | C);
        due(27, "inner(0)", x.inner(0), 0);
        due(27, "inner(32)", x.inner(32), NONE);
        due(27, "inner(-1)", x.inner(-1), NONE);
        due(28, "hull(0)", x.hull(0), 0);
        due(28, "hull(a)", x.hull(A), A | B);
        due(28, "hull(b)", x.hull(B), B);
        due(28, "hull(ac)", x.hull(A | C), A | B | C);
        due(28, "hull(ad)", x.hull(A | D), A | B | D);
        due(28, "in none", x.hull(E), 31);
        due(28, "in none", x.hull(A | E), 31);
        due(28, "hull(32)", x.hull(32), NONE);
        due(28, "hull(-1)", x.hull(-1), NONE);
    }

    private static void traces() {
        UnionFamilies x = of("points 5;set ab;set bcd;set d;");
        // Members: 0, d, ab, abd, bcd, abcd.
        due(29, "trace(cd, NONE)", x.trace(C | D, NONE), 3);
        due(29, "trace(cd, 0)", x.trace(C | D, 0), 0);
        due(29, "trace(cd, 1)", x.trace(C | D, 1), D);
        due(29, "trace(cd, 2)", x.trace(C | D, 2), C | D);
        due(29, "trace(cd, 3)", x.trace(C | D, 3), LACKS);
        due(29, "by size first", x.trace(A | B | D, 1), D);
        due(29, "by size first", x.trace(A | B | D, 2), A | B);
        due(29, "trace(0, NONE)", x.trace(0, NONE), 1);
        due(29, "trace(0, 0)", x.trace(0, 0), 0);
        due(29, "trace(e, NONE)", x.trace(E, NONE), 1);
        due(29, "trace(all, NONE)", x.trace(31, NONE), 6);
        due(29, "trace(all, greatest)", x.trace(31, Integer.MAX_VALUE), LACKS);
        due(29, "trace(all, -2)", x.trace(31, -2), NONE);
        due(29, "trace(32, 0)", x.trace(32, 0), NONE);
        due(29, "trace(32, 99)", x.trace(32, 99), NONE);
        due(29, "trace(-1, NONE)", x.trace(-1, NONE), NONE);
    }

    private static void partsOfPoints() {
        UnionFamilies x = of("points 5;set ab;set bcd;set d;");
        due(30, "LINK of d: how many", x.part(3, true, 0), 4);
        due(30, "LINK of d: union", x.part(3, true, 1), 15);
        due(30, "LINK of d: in all", x.part(3, true, 2), D);
        due(30, "LINK of c: in all", x.part(2, true, 2), B | C | D);
        due(30, "LINK of d: closed", x.part(3, true, 3), 1);
        due(30, "REST of d: how many", x.part(3, false, 0), 2);
        due(30, "REST of d: union", x.part(3, false, 1), A | B);
        due(30, "REST of d: in all", x.part(3, false, 2), 0);
        due(30, "REST of b: union", x.part(1, false, 1), D);
        due(30, "REST of d: closed", x.part(3, false, 3), 1);
        due(30, "LINK of e: how many", x.part(4, true, 0), 0);
        due(30, "LINK of e: union", x.part(4, true, 1), LACKS);
        due(30, "LINK of e: in all", x.part(4, true, 2), LACKS);
        due(30, "LINK of e: closed", x.part(4, true, 3), 1);
        due(30, "REST of e: how many", x.part(4, false, 0), 6);
        due(30, "part(5, true, 0)", x.part(5, true, 0), NONE);
        due(30, "part(-1, false, 1)", x.part(-1, false, 1), NONE);
        due(30, "part(0, true, 4)", x.part(0, true, 4), NONE);
        due(30, "part(0, true, -1)", x.part(0, true, -1), NONE);
    }

    private static void coverings() {
        UnionFamilies x = of("points 5;set ab;set bcd;set d;");
        // 0: none, 1: d, 2: ab, 3: abd, 4: bcd, 5: abcd.
        int[][] want = {{1, 0}, {2, 0}, {3, 1}, {3, 2}, {4, 1}, {5, 3}, {5, 4}};
        for (int a = 0; a < 6; a++) {
            for (int b = 0; b < 6; b++) {
                int one = 0;
                for (int[] pair : want) {
                    one |= pair[0] == a && pair[1] == b ? 1 : 0;
                }
                due(31, "covers(" + a + ", " + b + ")", x.covers(a, b), one);
            }
        }
        due(31, "covers(6, 5)", x.covers(6, 5), NONE);
        due(31, "covers(5, 6)", x.covers(5, 6), NONE);
        due(31, "covers(-1, 0)", x.covers(-1, 0), NONE);
        due(31, "covers(0, -1)", x.covers(0, -1), NONE);
        int[] above = {2, 2, 1, 1, 1, 0};
        int[] below = {0, 1, 1, 2, 1, 2};
        for (int k = 0; k < 6; k++) {
            due(32, "degree(" + k + ", true)", x.degree(k, true), above[k]);
            due(32, "degree(" + k + ", false)", x.degree(k, false), below[k]);
        }
        due(32, "degree(6, true)", x.degree(6, true), NONE);
        due(32, "degree(-1, false)", x.degree(-1, false), NONE);
        due(33, "single", x.single(), 3);
        due(33, "single of one", new UnionFamilies().single(), 0);
        due(33, "single of a row", of("set a;set ab;set abc;").single(), 3);
        due(33, "single of all sets", of("points 3;set a;set b;set c;").single(), 3);
        // What was asked ahead of an act does not stay.
        x.drop(2);
        due(32, "degree(0, true) behind an act", x.degree(0, true), 2);
        due(33, "single behind an act", x.single(), 2);
        due(23, "SPREAD behind an act", x.family(6), 2);
    }

    private static void joinsAndMeets() {
        UnionFamilies x = of("points 5;set ab;set bcd;set d;");
        due(34, "JOIN of d, ab", x.both(1, 2, 0), 3);
        due(34, "JOIN of ab, bcd", x.both(2, 4, 0), 5);
        due(34, "JOIN of one", x.both(4, 4, 0), 4);
        due(34, "MEET of abd, bcd", x.both(3, 4, 1), 1);
        due(34, "MEET of ab, bcd", x.both(2, 4, 1), 0);
        due(34, "MEET of abcd, bcd", x.both(5, 4, 1), 4);
        due(34, "both(6, 0, 0)", x.both(6, 0, 0), NONE);
        due(34, "both(0, 6, 1)", x.both(0, 6, 1), NONE);
        due(34, "both(-1, 0, 0)", x.both(-1, 0, 0), NONE);
        due(34, "both(0, 0, 2)", x.both(0, 0, 2), NONE);
        due(34, "both(0, 0, -1)", x.both(0, 0, -1), NONE);
        due(35, "all share out", of("points 3;set a;set b;set c;").unshared(), LACKS);
        due(35, "a row", of("set a;set ab;set abc;").unshared(), LACKS);
        due(35, "three pairs", of("points 3;set ab;set ac;set bc;").unshared(), 10203);
        due(35, "a lattice of six", x.unshared(), LACKS);
        // 0, a (1), ab (2), bc (3), abc (4): MEET of ab and a + bc is ab, but those of ab with a, bc have a alone.
        due(35, "five", of("points 3;set a;set ab;set bc;").unshared(), 20103);
        // More than 40 members, though they do not share out.
        x = of("points 6;set ab;set ac;set bc;set d;set e;set f;");
        due(35, "40 members", x.family(0), 40);
        due(35, "40 members", x.unshared() != LACKS, true);
        x = of("points 7;set ab;set ac;set bc;set d;set e;set f;set g;");
        due(35, "80 members", x.family(0), 80);
        due(35, "80 members", x.unshared(), LACKS);
    }

    private static void chains() {
        UnionFamilies x = of("points 5;set ab;set bcd;set d;");
        // 0, d, abd, abcd is ahead of 0, d, bcd, abcd and 0, ab, abd, abcd.
        int[] want = {0, 1, 3, 5};
        for (int k = 0; k < 4; k++) {
            due(36, "chain(" + k + ")", x.chain(k), want[k]);
        }
        due(36, "chain(4)", x.chain(4), NONE);
        due(36, "chain(-1)", x.chain(-1), NONE);
        x = of("points 5;set abcde;set a;set bc;set bcd;");
        // 0, a, bc, abc, bcd, abcd, abcde.
        due(36, "chain(1)", x.chain(1), 1);
        due(36, "chain(4)", x.chain(4), 6);
        x = of("points 5;set a;set abcde;set bc;set bcd;set bcde;");
        // 0, a, bc, abc, bcd, abcd, bcde, abcde.
        due(36, "chain(3)", x.chain(3), 5);
        due(36, "chain(4)", x.chain(4), 7);
        due(36, "chain(5)", x.chain(5), NONE);
        x = of("points 4;set ab;set cd;set acd;");
        // 0, ab, cd, acd, abcd: by ab it is 0, 1, 4 alone.
        due(36, "chain(1)", x.chain(1), 2);
        due(36, "chain(2)", x.chain(2), 3);
        due(36, "chain(3)", x.chain(3), 4);
        due(36, "of one", new UnionFamilies().chain(0), 0);
        due(36, "of one", new UnionFamilies().chain(1), NONE);
        x = of("points 7;set a;set b;set c;set d;set e;set f;set g;");
        due(36, "of all sets", x.chain(7), 127);
        due(36, "of all sets", x.chain(8), NONE);
    }

    private static void commonAndRanked() {
        UnionFamilies x = of("points 5;set ab;set bcd;set d;");
        // Members: 0, d, ab, abd, bcd, abcd: a 3, b 4, c 2, d 4, e 0.
        due(37, "common(0, 1)", x.common(0, 1), 3);
        due(37, "common(0, 3)", x.common(0, 3), 2);
        due(37, "common(3, 0)", x.common(3, 0), 2);
        due(37, "both one", x.common(1, 1), 4);
        due(37, "common(0, 4)", x.common(0, 4), 0);
        due(37, "common(0, 5)", x.common(0, 5), NONE);
        due(37, "common(-1, 0)", x.common(-1, 0), NONE);
        int[] want = {1, 3, 0, 2, 4};
        for (int k = 0; k < 5; k++) {
            due(38, "ranked(" + k + ")", x.ranked(k), want[k]);
        }
        due(38, "ranked(5)", x.ranked(5), NONE);
        due(38, "ranked(-1)", x.ranked(-1), NONE);
        due(23, "family(4)", x.family(4), 1);
    }

    private static void nestedAndCrossing() {
        UnionFamilies x = of("points 5;set ab;set bcd;set d;");
        due(39, "nested(abd, false)", x.nested(A | B | D, false), 4);
        due(39, "nested(b, false)", x.nested(B, false), 1);
        due(39, "nested(0, false)", x.nested(0, false), 1);
        due(39, "nested(31, false)", x.nested(31, false), 6);
        due(39, "nested(0, true)", x.nested(0, true), 6);
        due(39, "nested(bd, true)", x.nested(B | D, true), 3);
        due(39, "nested(abd, true)", x.nested(A | B | D, true), 2);
        due(39, "nested(e, true)", x.nested(E, true), 0);
        due(39, "nested(32, true)", x.nested(32, true), NONE);
        due(39, "nested(-1, false)", x.nested(-1, false), NONE);
        due(40, "ab and bcd", x.crossing(), 0);
        due(40, "a row", of("set a;set ab;set abc;").crossing(), 1);
        due(40, "all sets", of("points 3;set a;set b;set c;").crossing(), 1);
        due(40, "of one", new UnionFamilies().crossing(), 1);
    }

    private static void fallingApart() {
        due(41, "parts", of("points 7;set ab;set bc;set de;set f;").parts(), 3);
        due(41, "of none", new UnionFamilies().parts(), 0);
        // Idle generators bind nothing.
        due(41, "parts", of("set a;set b;set ab;").parts(), 2);
        due(41, "a long way round", of("points 7;set ag;set fg;set ef;set de;set cd;set bc;").parts(), 1);
    }

    private static void shatteredSets() {
        UnionFamilies x = of("points 5;set ab;set bcd;set d;");
        due(42, "shattered(0)", x.shattered(0), 1);
        due(42, "shattered(b)", x.shattered(B), 1);
        due(42, "shattered(ad)", x.shattered(A | D), 1);
        due(42, "shattered(ab)", x.shattered(A | B), 0);
        due(42, "shattered(abd)", x.shattered(A | B | D), 0);
        due(42, "shattered(e)", x.shattered(E), 0);
        due(42, "shattered(32)", x.shattered(32), NONE);
        due(42, "shattered(-1)", x.shattered(-1), NONE);
        due(42, "all sets", of("points 3;set a;set b;set c;").shattered(7), 1);
    }

    private static void fewestGenerators() {
        UnionFamilies x = of("points 5;set a;set b;set ab;set c;set abc;set d;");
        due(43, "fewest(0)", x.fewest(0), 0);
        due(43, "fewest(a)", x.fewest(A), 1);
        due(43, "fewest(ab)", x.fewest(A | B), 1);
        due(43, "fewest(ac)", x.fewest(A | C), 2);
        due(43, "fewest(abcd)", x.fewest(15), 2);
        due(43, "fewest(bcd)", x.fewest(B | C | D), 3);
        due(43, "no member", x.fewest(E), LACKS);
        due(43, "fewest(32)", x.fewest(32), NONE);
        due(43, "fewest(-1)", x.fewest(-1), NONE);
        due(43, "ab, bc, cd", of("set ab;set bc;set cd;").fewest(15), 2);
    }

    private static void wereOtherwise() {
        UnionFamilies x = of("points 4;set ab;set cd;set abc;");
        // Members: 0, ab, cd, abc, abcd.
        due(44, "withSet(a)", x.withSet(A), 5 + 2);
        due(44, "withSet(abd)", x.withSet(A | B | D), 6);
        due(44, "a member", x.withSet(A | B), 5);
        due(44, "empty", x.withSet(0), NONE);
        due(44, "of other points", x.withSet(16), NONE);
        due(44, "below 0", x.withSet(-1), NONE);
        due(44, "nothing happens", x.family(0), 5);
        due(44, "nothing happens", x.count(3), 0);
        UnionFamilies full = of(TWELVE);
        due(44, "though there are 12", full.withSet(A | B | C), full.family(0));
        full = of("points 5;set ab;set ac;set ad;set ae;set bc;set bd;set be;set cd;set ce;set de;set abc;set abd;");
        due(44, "though there are 12", full.withSet(A), full.family(0) + 1);

        due(45, "withoutGenerator(0)", x.withoutGenerator(0), 4);
        due(45, "withoutGenerator(1)", x.withoutGenerator(1), 3);
        due(45, "withoutGenerator(2)", x.withoutGenerator(2), 4);
        due(45, "withoutGenerator(3)", x.withoutGenerator(3), NONE);
        due(45, "withoutGenerator(-1)", x.withoutGenerator(-1), NONE);
        due(45, "nothing happens", x.count(1), 3);
        due(45, "an idle one", of("set a;set b;set ab;").withoutGenerator(2), 4);

        // c would bring itself alone: abc, cd are members.
        due(46, "gentlest", x.gentlest(), C);
        due(46, "of none", new UnionFamilies().gentlest(), A);
        due(46, "all are members", of("points 2;set a;set b;").gentlest(), LACKS);
        due(46, "one point", of("points 1;set a;").gentlest(), LACKS);
        // 0, a, b, ab of three points: c, ac, bc would bring 4, 2, 2, abc 1.
        due(46, "gentlest", of("points 3;set a;set b;").gentlest(), A | B | C);

        due(47, "of none", new UnionFamilies().spoiler(), A);
        // 0, ab with a: 0, a, ab: a 2 of 3 alone; with c: 0, c, ab, abc: all three.
        due(47, "ab", of("points 3;set ab;").spoiler(), A);
        // 0, bc with a: 0, a, bc, abc: all three; with b: 0, b, bc: b alone.
        due(47, "bc", of("points 3;set bc;").spoiler(), B);
        due(47, "a, told", of("points 1;set a;").spoiler(), A);
        // 0, c, abc: c alone is frequent; a: 0, a, c, ac, abc: a and c; b: alike; c changes nothing.
        due(47, "a member", of("points 3;set c;set abc;").spoiler(), C);
        due(47, "nothing happens", x.count(1), 3);
    }

    private static void proofs() {
        due(48, "the top is empty", new UnionFamilies().proof(), LACKS);
        due(48, "a", of("set a;").proof(), 1000);
        due(48, "ab", of("set ab;").proof(), 100);
        due(48, "abcd", of("set abcd;").proof(), 1);
        due(48, "points 7", of("points 7;set a;").proof(), 1000000);
        due(48, "points 1", of("points 1;set a;").proof(), 1);
        due(48, "told weights do not matter", of("weight a 0;weight b 0;set ab;").proof(), 100);
        // 0, a, b, ab, abc: c is in one of five.
        due(48, "c can't", of("points 3;set a;set b;set abc;").proof(), 10);
    }

    private static void refusedLists() {
        UnionFamilies x = new UnionFamilies();
        due(50, "an empty list", x.refused(0), LACKS);
        due(51, "an empty list", x.needs(), 0);
        x.list(A | B);
        due(50, "one set", x.refused(0), LACKS);
        due(51, "one set", x.needs(), 0);
        x.list(A);
        due(50, "nested ones", x.refused(2), LACKS);
        x.list(C);
        x.list(D);
        due(49, "listed(0)", x.listed(0), A | B);
        due(49, "listed(3)", x.listed(3), D);
        due(49, "listed(4)", x.listed(4), NONE);
        due(49, "listed(-1)", x.listed(-1), NONE);
        due(50, "refused(0)", x.refused(0), 0);
        due(50, "refused(1)", x.refused(1), 2);
        due(50, "refused(2)", x.refused(2), A | B | C);
        due(50, "refused(3)", x.refused(3), NONE);
        due(50, "refused(-1)", x.refused(-1), NONE);
        // ab, a, c, d: abc, abd, abcd, ac, ad, acd, cd lack.
        due(51, "needs", x.needs(), 7);
        x.list(A | B | C);
        due(50, "the next pair", x.refused(1), 3);
        due(50, "its union", x.refused(2), A | B | D);
        due(51, "needs", x.needs(), 6);
        x.list(A | B | D);
        x.list(15);
        due(50, "of the second", x.refused(0), 1);
        due(50, "of the second", x.refused(1), 2);
        due(50, "of the second", x.refused(2), A | C);
        due(51, "needs", x.needs(), 4);
        x.list(A | C);
        x.list(A | D);
        x.list(A | C | D);
        due(50, "refused(0)", x.refused(0), 2);
        due(50, "refused(1)", x.refused(1), 3);
        due(51, "needs", x.needs(), 1);
        due(51, "list", x.list(C | D), 11);
        due(50, "not refused", x.refused(0), LACKS);
        due(50, "not refused", x.refused(2), LACKS);
        due(50, "others are told first", x.refused(3), NONE);
        due(51, "needs", x.needs(), 0);
        // More than a list could hold.
        x = of("points 7;");
        for (int p = 0; p < 7; p++) {
            x.list(1 << p);
        }
        due(51, "needs", x.needs(), 120);
    }

    private static void spelling() {
        UnionFamilies x = of("points 7;set gca;weight g 0;set b;weight a 9;");
        dueText(52, x, "points 7;weight a 9;weight g 0;set acg;set b;");
        due(52, "spell(NONE)", x.spell(NONE), 9 + 11 + 11 + 8 + 6);
        due(52, "spell(0)", x.spell(0), 'p');
        due(52, "spell(44)", x.spell(44), ';');
        due(52, "spell(45)", x.spell(45), LACKS);
        due(52, "spell(greatest)", x.spell(Integer.MAX_VALUE), LACKS);
        due(52, "spell(-2)", x.spell(-2), NONE);
        due(52, "spell(least)", x.spell(Integer.MIN_VALUE), NONE);
        String first = spelled(x);
        due(52, "it can be told", tell(x, first), 2);
        dueText(52, x, first);
        dueText(52, new UnionFamilies(), "points 4;");
        // The longest text there is.
        x = of("points 7;weight a 2;weight b 2;weight c 2;weight d 2;weight e 2;weight f 2;weight g 2;"
            + "set abcdefg;set bcdefg;set acdefg;set abdefg;set abcefg;set abcdfg;set abcdeg;set abcdef;set cdefg;set bdefg;set bcefg;set bcdfg;");
        due(52, "a long text", x.spell(NONE), 86 + 12 + 7 * 11 + 4 * 10);
        due(52, "a long text", x.spell(214), ';');
    }

    private static void counts() {
        UnionFamilies x = of("points 5;weight b 7;set ab;set a;set b;set abcd;set d;");
        x.list(A);
        x.list(B);
        x.weigh(4, 0);
        tellBytes(x, "set a");
        due(53, "count(0)", x.count(0), 5);
        due(53, "count(1)", x.count(1), 5);
        due(53, "count(2)", x.count(2), 2);
        due(53, "count(3)", x.count(3), 3);
        due(53, "count(4)", x.count(4), 5);
        due(53, "count(5)", x.count(5), 1);
        due(53, "count(6)", x.count(6), 10);
        due(53, "count(7)", x.count(7), NONE);
        due(53, "count(-1)", x.count(-1), NONE);
    }
}
