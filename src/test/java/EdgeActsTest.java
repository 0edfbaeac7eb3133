import java.util.LinkedHashMap;
import java.util.Map;
import java.util.function.Consumer;
import java.util.function.ToIntFunction;

/** The edges that promises 1 to 17 name (a new object, what is told, acts), each with a test of its own. */
public final class EdgeActsTest extends Edges {
    private static final int BLANKS = 0x20202020;
    private static final String IDLE_AB = "points 4;weight b 2;set b;set ab;set a;set cd;";
    /** One call of each kind of act; each of them happens where the text is IDLE_AB and c is on the LIST. */
    private static final Map<String, ToIntFunction<UnionFamilies>> ACTS = allActs();

    public static void main(String[] args) {
        newObject();
        feed();
        back();
        text();
        generate();
        drop();
        change();
        weigh();
        swap();
        turn();
        without();
        lean();
        basis();
        list();
        strike();
        adopt();
        undo();
        end(1, 17);
    }

    /** The call is refused, and of 12 acts ahead of it none is lost. */
    private static void losesNoAct(String text, String call, ToIntFunction<UnionFamilies> asking) {
        UnionFamilies x = of(text);
        String before = told(x);
        for (int weight = 2; weight <= 9; weight++) {
            x.weigh(0, weight);
        }
        for (int weight = 2; weight <= 5; weight++) {
            x.weigh(1, weight);
        }
        refused(x, call + " behind 12 acts", () -> asking.applyAsInt(x));
        for (int left = 11; left >= 0; left--) {
            due("undo behind " + call, x.undo(), left);
        }
        due("what stands behind " + call, told(x), before);
    }

    /** Each act behind the call does what it does without it: nothing of the call has stayed. */
    private static void leavesNoMark(String text, String call, Consumer<UnionFamilies> calling) {
        ACTS.forEach((name, act) -> {
            UnionFamilies plain = prepared(text);
            UnionFamilies called = prepared(text);
            calling.accept(called);
            due(name + " behind " + call, act.applyAsInt(called), act.applyAsInt(plain));
            due("what stands behind " + call + " and " + name, state(called), state(plain));
        });
    }

    private static UnionFamilies prepared(String text) {
        UnionFamilies x = of(text);
        x.list(C);
        return x;
    }

    private static Map<String, ToIntFunction<UnionFamilies>> allActs() {
        Map<String, ToIntFunction<UnionFamilies>> out = new LinkedHashMap<>();
        out.put("generate", x -> x.generate(D));
        out.put("drop", x -> x.drop(0) ? 1 : NONE);
        out.put("change", x -> x.change(0, D));
        out.put("weigh", x -> x.weigh(1, 0));
        out.put("swap", x -> x.swap(0, 2));
        out.put("turn", x -> x.turn());
        out.put("without", x -> x.without(0));
        out.put("lean", x -> x.lean());
        out.put("basis", x -> x.basis());
        out.put("list", x -> x.list(D));
        out.put("strike", x -> x.strike(0));
        out.put("adopt", x -> x.adopt());
        return out;
    }

    private static UnionFamilies fullTape() {
        UnionFamilies x = new UnionFamilies();
        for (int i = 0; i < 15; i++) {
            x.feed(BLANKS, BLANKS, BLANKS, BLANKS, BLANKS);
        }
        return x;
    }

    private static void newObject() {
        edge(1, "4 POINTS", () -> {
            UnionFamilies x = new UnionFamilies();
            due("count(0)", x.count(0), 4);
            due("a fifth", x.generate(E), NONE);
            due("all four", x.generate(15), 0);
        });
        edge(1, "no GENERATORS", () -> {
            UnionFamilies x = new UnionFamilies();
            due("count(1)", x.count(1), 0);
            due("generator(0, 0)", x.generator(0, 0), NONE);
            due("the empty SET alone", x.family(0), 1);
        });
        edge(1, "no LIST", () -> {
            UnionFamilies x = new UnionFamilies();
            due("count(2)", x.count(2), 0);
            due("listed(0)", x.listed(0), NONE);
            due("no acts", x.count(3), 0);
            due("no tape", x.count(4), 0);
        });
    }

    private static void feed() {
        edge(2, "Twenty bytes, the highest of a first, come behind the tape: how many it has.", () -> {
            due("onto none", new UnionFamilies().feed(0, 0, 0, 0, 0), 20);
            for (int place = 0; place < 20; place++) {
                int[] words = {BLANKS, BLANKS, BLANKS, BLANKS, BLANKS};
                words[place / 4] ^= 255 << (24 - 8 * (place % 4));
                UnionFamilies x = new UnionFamilies();
                x.feed(words[0], words[1], words[2], words[3], words[4]);
                due("the fault at byte " + place, x.text(), -4 - place);
            }
            UnionFamilies x = new UnionFamilies();
            feed(x, "set a");
            due("behind five bytes", x.feed(0x62636420, 0x3B202020, BLANKS, BLANKS, BLANKS), 25);
            due("text", x.text(), 1);
            due("set abcd", x.generator(0, 0), 15);
            x.feed(-1, LEAST, GREATEST, 0, 0);
            due("bytes of 255", x.text(), -4);
        });
        edge(2, "NONE, and nothing comes, if it would have more than 300.", () -> {
            UnionFamilies x = fullTape();
            due("just 300", x.count(4), 300);
            refused(x, "320", () -> x.feed(0, 0, 0, 0, 0));
            x.back(1);
            refused(x, "319", () -> x.feed(0, 0, 0, 0, 0));
            x.back(18);
            refused(x, "301", () -> x.feed(0, 0, 0, 0, 0));
            due("281 stay", x.back(1), 280);
            due("300", x.feed(BLANKS, BLANKS, BLANKS, BLANKS, BLANKS), 300);
            due("blanks alone", x.text(), 0);
        });
    }

    private static void back() {
        edge(3, "The last n bytes of the tape go: how many it has.", () -> {
            UnionFamilies x = new UnionFamilies();
            feed(x, "set a;set b;");
            due("none", x.back(0), 12);
            due("the last ones", x.back(6), 6);
            due("text", x.text(), 1);
            due("the first stays", x.generator(0, 0), A);
            due("all of 300", fullTape().back(300), 0);
            due("none of none", new UnionFamilies().back(0), 0);
        });
        edge(3, "NONE, and nothing goes", () -> {
            UnionFamilies x = new UnionFamilies();
            feed(x, "set a;");
            refused(x, "back(7)", () -> x.back(7));
            refused(x, "back(-1)", () -> x.back(-1));
            due("text", x.text(), 1);
            due("what it told", x.generator(0, 0), A);
        });
        edge(3, "if it has not so many", () -> {
            UnionFamilies x = fullTape();
            refused(x, "back(301)", () -> x.back(301));
            refused(x, "back(greatest)", () -> x.back(GREATEST));
            x.back(300);
            refused(x, "back(1) of none", () -> x.back(1));
        });
        edge(3, "or n is below 0", () -> {
            UnionFamilies x = new UnionFamilies();
            x.feed(0, 0, 0, 0, 0);
            refused(x, "back(-1)", () -> x.back(-1));
            refused(x, "back(-20)", () -> x.back(-20));
            refused(x, "back(least)", () -> x.back(LEAST));
        });
    }

    private static void text() {
        edge(4, "(empty then, behind a FAULT, too)", () -> {
            UnionFamilies x = new UnionFamilies();
            feed(x, "set a;");
            x.text();
            due("behind a TEXT", x.count(4), 0);
            feed(x, "set ");
            x.text();
            due("behind a FAULT", x.count(4), 0);
            UnionFamilies full = fullTape();
            full.text();
            due("of 300 bytes", full.count(4), 0);
            due("the next ones are the first", full.feed(BLANKS, BLANKS, BLANKS, BLANKS, BLANKS), 20);
        });
        edge(4, "all anew", () -> {
            UnionFamilies x = of("points 7;weight a 2;weight g 5;set ag;");
            due("the empty tape", x.text(), 0);
            due("what stands", told(x), "points 4;");
            x = of("points 7;weight a 2;weight g 5;set ag;");
            tell(x, "points 2;set b;");
            due("POINTS fewer", told(x), "points 2;set b;");
            due("their WEIGHTS", x.count(6), 2);
            tell(x, "points 7;");
            due("WEIGHTS of POINTS that were gone", x.count(6), 7);
            tell(x, "set a;");
            tell(x, "set a;");
            due("the same GENERATOR again", x.count(1), 1);
        });
        edge(4, "the LIST stays where all its SETS are of POINTS that there are", () -> {
            UnionFamilies x = of("points 7;");
            x.list(A | B | C);
            x.list(C);
            tell(x, "points 3;set a;");
            due("as many POINTS as it has", listOf(x), "abc,c");
            tell(x, "points 7;");
            due("more POINTS", listOf(x), "abc,c");
            tell(x, "");
            due("four without", listOf(x), "abc,c");
            due("none to stay", new UnionFamilies().text(), 0);
        });
        edge(4, "else it is empty", () -> {
            UnionFamilies x = of("points 7;");
            x.list(A);
            x.list(A | D);
            x.list(B);
            tell(x, "points 3;");
            due("one of them has a POINT more", x.count(2), 0);
            tell(x, "points 7;");
            due("it stays so", x.count(2), 0);
            x.list(E);
            tell(x, "");
            due("four without", x.count(2), 0);
            x.list(B);
            tell(x, "points 1;");
            due("the least", x.count(2), 0);
        });
        edge(4, "how many GENERATORS", () -> {
            due("none", new UnionFamilies().text(), 0);
            due("none told", tell(new UnionFamilies(), "points 2;weight a 3;"), 0);
            due("twelve", tell(new UnionFamilies(), TWELVE), 12);
        });
        edge(4, "-4 less its FAULT, and all else stays.", () -> {
            UnionFamilies x = of("points 5;weight a 3;set ae;");
            x.list(E);
            x.generate(B);
            String before = state(x);
            due("at 0", tell(x, "#"), -4);
            due("all else", state(x), before);
            due("at 6, behind what would stand", tell(x, "set d;set d;"), -4 - 10);
            due("all else", state(x), before);
            due("POINTS told ahead of it", tell(x, "points 2;weight b 9;set b;#"), -4 - 26);
            due("all else", state(x), before);
            due("acts stay", x.undo(), 1);
            due("acts stay", told(x), "points 5;weight a 3;set ae;");
            leavesNoMark(IDLE_AB, "a FAULT", o -> tell(o, "points 7;weight b 9;weight g 9;set g;set ag;#"));
            leavesNoMark(IDLE_AB, "a FAULT at its first byte", o -> tell(o, "#"));
            UnionFamilies full = fullTape();
            full.back(20);
            feed(full, "                   #");
            due("at 299, the last byte", full.text(), -4 - 299);
        });
    }

    private static void generate() {
        edge(5, "its number", () -> {
            UnionFamilies x = of("points 7;");
            for (int g = 0; g < 12; g++) {
                due("generate", x.generate(127 - g), g);
            }
            x.drop(3);
            due("behind one that went", x.generate(1), 11);
        });
        edge(5, "NONE, and nothing happens", () -> {
            leavesNoMark(IDLE_AB, "generate of what is told", x -> x.generate(B));
            losesNoAct("set a;", "empty", x -> x.generate(0));
            losesNoAct("set a;", "of other POINTS", x -> x.generate(16));
            losesNoAct("set a;", "told already", x -> x.generate(A));
            losesNoAct(TWELVE, "a 13th", x -> x.generate(31));
        });
        edge(5, "it is empty", () -> {
            UnionFamilies x = of("set a;");
            refused(x, "generate(0)", () -> x.generate(0));
        });
        edge(5, "of other POINTS", () -> {
            for (int n = 1; n <= 7; n++) {
                UnionFamilies x = of("points " + n + ";");
                int above = 1 << n;
                refused(x, "one above " + n, () -> x.generate(above));
                refused(x, "one above and a", () -> x.generate(above | A));
                due("all of " + n, x.generate(above - 1), 0);
            }
            UnionFamilies x = of("points 7;");
            refused(x, "generate(-1)", () -> x.generate(-1));
            refused(x, "generate(least)", () -> x.generate(LEAST));
            refused(x, "generate(least and a)", () -> x.generate(LEAST | A));
            refused(x, "generate(greatest)", () -> x.generate(GREATEST));
            refused(x, "generate(257)", () -> x.generate(257));
        });
        edge(5, "told already", () -> {
            UnionFamilies x = of("set a;set bc;set d;");
            refused(x, "the first", () -> x.generate(A));
            refused(x, "the last", () -> x.generate(D));
            due("a MEMBER that is none", x.generate(A | D), 3);
            refused(x, "what came just now", () -> x.generate(A | D));
            x.drop(0);
            due("what went", x.generate(A), 3);
        });
        edge(5, "there are 12", () -> {
            UnionFamilies x = of("points 4;");
            for (int set = 1; set <= 11; set++) {
                x.generate(set);
            }
            due("the 12th", x.generate(12), 11);
            refused(x, "the 13th", () -> x.generate(13));
            x.drop(0);
            due("the 12th again", x.generate(13), 11);
        });
    }

    private static void drop() {
        edge(6, "A GENERATOR goes (numbers above it are one less): true", () -> {
            UnionFamilies x = of("set a;set b;set c;set d;");
            due("the first", x.drop(0), true);
            due("what is left", told(x), "points 4;set b;set c;set d;");
            due("the last", x.drop(2), true);
            due("what is left", told(x), "points 4;set b;set c;");
            x.drop(1);
            due("the only one", x.drop(0), true);
            due("none is left", told(x), "points 4;");
            due("an act each", x.count(3), 4);
            UnionFamilies full = of(TWELVE);
            due("the 12th", full.drop(11), true);
            due("eleven", full.count(1), 11);
        });
        edge(6, "false: there is none such", () -> {
            UnionFamilies x = of("set a;set b;");
            stays(x, "drop(2)", () -> x.drop(2) ? 1 : 0, 0);
            stays(x, "drop(-1)", () -> x.drop(-1) ? 1 : 0, 0);
            stays(x, "drop(least)", () -> x.drop(LEAST) ? 1 : 0, 0);
            stays(x, "drop(greatest)", () -> x.drop(GREATEST) ? 1 : 0, 0);
            UnionFamilies none = new UnionFamilies();
            stays(none, "drop(0) of none", () -> none.drop(0) ? 1 : 0, 0);
            UnionFamilies full = of(TWELVE);
            stays(full, "drop(12) of 12", () -> full.drop(12) ? 1 : 0, 0);
            losesNoAct("set a;", "drop(1)", o -> o.drop(1) ? 1 : NONE);
        });
    }

    private static void change() {
        edge(7, "A GENERATOR becomes another SET: which it was", () -> {
            UnionFamilies x = of(TWELVE);
            due("of 12, the last", x.change(11, 31), B | E);
            due("of 12, the first", x.change(0, 30), A);
            due("its place stays", x.generator(0, 0), 30);
            due("twelve", x.count(1), 12);
        });
        edge(7, "NONE, and nothing happens", () -> {
            leavesNoMark(IDLE_AB, "change to what is told", x -> x.change(0, A));
            losesNoAct("set a;", "no such one", x -> x.change(1, B));
            losesNoAct("set a;", "empty", x -> x.change(0, 0));
            losesNoAct("set a;", "of other POINTS", x -> x.change(0, 16));
            losesNoAct("set a;set b;", "told already", x -> x.change(0, B));
            losesNoAct("set a;", "it is so", x -> x.change(0, A));
        });
        edge(7, "no such one", () -> {
            UnionFamilies x = of("set a;set b;");
            refused(x, "change(2, c)", () -> x.change(2, C));
            refused(x, "change(-1, c)", () -> x.change(-1, C));
            refused(x, "change(least, c)", () -> x.change(LEAST, C));
            refused(x, "change(greatest, c)", () -> x.change(GREATEST, C));
            UnionFamilies none = new UnionFamilies();
            refused(none, "change(0, c) of none", () -> none.change(0, C));
        });
        edge(7, "it is empty", () -> {
            UnionFamilies x = of("set a;");
            refused(x, "change(0, 0)", () -> x.change(0, 0));
        });
        edge(7, "of other POINTS", () -> {
            UnionFamilies x = of("points 3;set a;");
            refused(x, "change(0, d)", () -> x.change(0, D));
            refused(x, "change(0, ad)", () -> x.change(0, A | D));
            refused(x, "change(0, -1)", () -> x.change(0, -1));
            refused(x, "change(0, least)", () -> x.change(0, LEAST));
            due("all of them", x.change(0, 7), A);
            UnionFamilies seven = of("points 7;set a;");
            refused(seven, "change(0, 128)", () -> seven.change(0, 128));
        });
        edge(7, "told already", () -> {
            UnionFamilies x = of("set a;set b;set c;");
            refused(x, "as one behind it", () -> x.change(0, C));
            refused(x, "as one ahead of it", () -> x.change(2, A));
        });
        edge(7, "(also: it is so)", () -> {
            UnionFamilies x = of("set a;set b;");
            refused(x, "change(0, a)", () -> x.change(0, A));
            refused(x, "change(1, b)", () -> x.change(1, B));
        });
    }

    private static void weigh() {
        edge(8, "A WEIGHT is another one: which it was", () -> {
            UnionFamilies x = new UnionFamilies();
            due("1 at first", x.weigh(0, 0), 1);
            due("0", x.weigh(0, 9), 0);
            due("9", x.weigh(0, 1), 9);
            due("an act each", x.count(3), 3);
        });
        edge(8, "NONE: no such POINT (0 .. n less 1)", () -> {
            UnionFamilies x = of("points 3;");
            refused(x, "weigh(3, 2)", () -> x.weigh(3, 2));
            refused(x, "weigh(-1, 2)", () -> x.weigh(-1, 2));
            refused(x, "weigh(least, 2)", () -> x.weigh(LEAST, 2));
            due("weigh(2, 2)", x.weigh(2, 2), 1);
            UnionFamilies one = of("points 1;");
            refused(one, "weigh(1, 2)", () -> one.weigh(1, 2));
            due("weigh(0, 2)", one.weigh(0, 2), 1);
            UnionFamilies seven = of("points 7;");
            refused(seven, "weigh(7, 2)", () -> seven.weigh(7, 2));
            refused(seven, "weigh(greatest, 2)", () -> seven.weigh(GREATEST, 2));
            due("weigh(6, 2)", seven.weigh(6, 2), 1);
        });
        edge(8, "out of bounds", () -> {
            UnionFamilies x = new UnionFamilies();
            refused(x, "weigh(0, 10)", () -> x.weigh(0, 10));
            refused(x, "weigh(0, -1)", () -> x.weigh(0, -1));
            refused(x, "weigh(0, least)", () -> x.weigh(0, LEAST));
            refused(x, "weigh(0, greatest)", () -> x.weigh(0, GREATEST));
            losesNoAct("", "10", o -> o.weigh(0, 10));
        });
        edge(8, "it is so", () -> {
            UnionFamilies x = of("weight b 0;weight c 9;");
            refused(x, "weigh(0, 1)", () -> x.weigh(0, 1));
            refused(x, "weigh(1, 0)", () -> x.weigh(1, 0));
            refused(x, "weigh(2, 9)", () -> x.weigh(2, 9));
            losesNoAct("", "it is so", o -> o.weigh(1, 5));
        });
    }

    private static void swap() {
        edge(9, "(WEIGHTS stay)", () -> {
            UnionFamilies x = of("weight a 3;set a;");
            x.swap(0, 1);
            due("what stands", told(x), "points 4;weight a 3;set b;");
        });
        edge(9, "how many GENERATORS changed", () -> {
            UnionFamilies x = of("set a;set b;set ab;set c;set ac;");
            due("ab and c do not", x.swap(0, 1), 3);
            due("what stands", told(x), "points 4;set b;set a;set ab;set c;set bc;");
            due("all of 12", of("points 7;set a;set ac;set ad;set ae;set af;set ag;set acd;set ace;set acf;set acg;set ade;set adf;")
                .swap(0, 1), 12);
            due("the last with the first", of("points 7;set g;").swap(6, 0), 1);
            due("an act", x.count(3), 1);
        });
        edge(9, "NONE, and nothing happens", () -> {
            leavesNoMark(IDLE_AB, "swap that changes none", x -> x.swap(2, 3));
            losesNoAct("set a;", "no such POINTS", x -> x.swap(0, 4));
            losesNoAct("set a;", "both are one", x -> x.swap(0, 0));
            losesNoAct("set a;", "none would", x -> x.swap(1, 2));
        });
        edge(9, "no such POINTS", () -> {
            UnionFamilies x = of("points 3;set abc;set a;");
            refused(x, "swap(0, 3)", () -> x.swap(0, 3));
            refused(x, "swap(3, 0)", () -> x.swap(3, 0));
            refused(x, "swap(-1, 0)", () -> x.swap(-1, 0));
            refused(x, "swap(0, -1)", () -> x.swap(0, -1));
            refused(x, "swap(0, 32)", () -> x.swap(0, 32));
            refused(x, "swap(0, least)", () -> x.swap(0, LEAST));
            refused(x, "swap(greatest, 0)", () -> x.swap(GREATEST, 0));
            due("swap(0, 2)", x.swap(0, 2), 1);
            UnionFamilies seven = of("points 7;set a;");
            refused(seven, "swap(0, 7)", () -> seven.swap(0, 7));
            UnionFamilies one = of("points 1;set a;");
            refused(one, "swap(0, 1) of one", () -> one.swap(0, 1));
        });
        edge(9, "both are one", () -> {
            UnionFamilies x = of("set a;set ab;");
            refused(x, "swap(0, 0)", () -> x.swap(0, 0));
            refused(x, "swap(3, 3)", () -> x.swap(3, 3));
        });
        edge(9, "none would", () -> {
            UnionFamilies x = of("set abc;set c;");
            refused(x, "both are in all, or in none", () -> x.swap(0, 1));
            UnionFamilies off = of("set a;");
            refused(off, "off the TOP", () -> off.swap(2, 3));
            UnionFamilies none = new UnionFamilies();
            refused(none, "no GENERATORS", () -> none.swap(0, 1));
        });
    }

    private static void turn() {
        edge(10, "(the last one the first; WEIGHTS stay)", () -> {
            UnionFamilies x = of("weight d 5;set d;");
            due("turn", x.turn(), 1);
            due("d becomes a", told(x), "points 4;weight d 5;set a;");
            UnionFamilies seven = of("points 7;set g;set fg;");
            seven.turn();
            due("g becomes a", told(seven), "points 7;set a;set ag;");
            UnionFamilies two = of("points 2;set b;");
            two.turn();
            due("b becomes a of two", told(two), "points 2;set a;");
            UnionFamilies round = of("points 5;set ab;set ace;");
            for (int i = 0; i < 5; i++) {
                due("turn", round.turn(), 2);
            }
            due("all the way round", told(round), "points 5;set ab;set ace;");
        });
        edge(10, "how many GENERATORS changed", () -> {
            due("all POINTS do not", of("set a;set abcd;set ab;").turn(), 2);
            due("places are changed", of("points 2;set a;set b;").turn(), 2);
            due("a turn that leaves it", of("set ac;set bd;").turn(), 2);
        });
        edge(10, "NONE, and nothing happens", () -> {
            leavesNoMark("points 4;weight b 2;set abcd;", "turn that changes none", x -> x.turn());
            losesNoAct("points 4;set abcd;", "turn", x -> x.turn());
            losesNoAct("points 4;", "turn of none", x -> x.turn());
        });
        edge(10, "none would", () -> {
            UnionFamilies all = of("set abcd;");
            refused(all, "all POINTS", () -> all.turn());
            UnionFamilies none = new UnionFamilies();
            refused(none, "no GENERATORS", () -> none.turn());
            UnionFamilies one = of("points 1;set a;");
            refused(one, "one POINT", () -> one.turn());
        });
    }

    private static void without() {
        edge(11, "those that are empty then", () -> {
            UnionFamilies x = of("set a;set ab;set cd;");
            due("one goes", x.without(0), 2);
            due("what is left", told(x), "points 4;set b;set cd;");
            UnionFamilies last = of("points 7;set g;");
            due("all go", last.without(6), 0);
            due("none is left", told(last), "points 7;");
            UnionFamilies one = of("points 1;set a;");
            due("all of one POINT", one.without(0), 0);
        });
        edge(11, "or as one ahead of them, go", () -> {
            UnionFamilies x = of("set b;set ab;set cd;");
            due("the one behind goes", x.without(0), 2);
            due("what is left", told(x), "points 4;set b;set cd;");
            x = of("set cd;set ab;set b;set bc;");
            due("the one behind goes, though it had no a", x.without(0), 3);
            due("what is left", told(x), "points 4;set cd;set b;set bc;");
            due("of 12", of("points 5;set b;set c;set d;set e;set bc;set bd;set ab;set ac;set ad;set ae;set abc;set abd;").without(0), 6);
        });
        edge(11, "how many GENERATORS there are", () -> {
            UnionFamilies x = of("weight a 4;set ab;set ac;set d;");
            due("none goes", x.without(0), 3);
            due("POINTS and WEIGHTS stay", told(x), "points 4;weight a 4;set b;set c;set d;");
        });
        edge(11, "NONE, and nothing happens", () -> {
            leavesNoMark("points 4;set b;set cd;", "without what is in none", x -> x.without(0));
            losesNoAct("set ab;", "no such POINT", x -> x.without(4));
            losesNoAct("set ab;", "it is in none", x -> x.without(2));
        });
        edge(11, "no such POINT", () -> {
            UnionFamilies x = of("points 3;set abc;");
            refused(x, "without(3)", () -> x.without(3));
            refused(x, "without(-1)", () -> x.without(-1));
            refused(x, "without(32)", () -> x.without(32));
            refused(x, "without(least)", () -> x.without(LEAST));
            refused(x, "without(greatest)", () -> x.without(GREATEST));
            due("without(2)", x.without(2), 1);
            UnionFamilies seven = of("points 7;set abcdefg;");
            refused(seven, "without(7)", () -> seven.without(7));
        });
        edge(11, "it is in none", () -> {
            UnionFamilies x = of("set ab;");
            refused(x, "without(2)", () -> x.without(2));
            x.without(0);
            refused(x, "without(0) again", () -> x.without(0));
            UnionFamilies none = new UnionFamilies();
            refused(none, "no GENERATORS", () -> none.without(0));
        });
    }

    private static void lean() {
        edge(12, "All IDLE GENERATORS go at once: how many", () -> {
            UnionFamilies x = of("set abc;set a;set ab;set b;set c;set bc;");
            due("three", x.lean(), 3);
            due("what is left", told(x), "points 4;set a;set b;set c;");
            due("one act", x.count(3), 1);
            x.undo();
            due("all are back", x.count(1), 6);
            due("the most", of("points 4;set a;set b;set c;set d;set ab;set ac;set ad;set bc;set bd;set cd;set abc;set abd;").lean(), 8);
            due("MEMBERS stay", of("set a;set b;set ab;").family(0), 4);
        });
        edge(12, "NONE, and nothing happens: there are none.", () -> {
            leavesNoMark("points 4;set b;set a;", "lean of none", x -> x.lean());
            losesNoAct("set b;set a;", "lean", x -> x.lean());
            UnionFamilies none = new UnionFamilies();
            refused(none, "no GENERATORS", () -> none.lean());
            UnionFamilies row = of("set a;set ab;set abc;");
            refused(row, "a row", () -> row.lean());
        });
    }

    private static void basis() {
        edge(13, "GENERATORS become the BASIS in its order: how many", () -> {
            UnionFamilies x = of("set ab;set b;set a;");
            due("one is IDLE", x.basis(), 2);
            due("what stands", told(x), "points 4;set a;set b;");
            x = of("set bc;set d;");
            due("none is IDLE", x.basis(), 2);
            due("what stands", told(x), "points 4;set d;set bc;");
            due("one act", x.count(3), 1);
        });
        // The BASIS is among GENERATORS, so it has never more than 12: just 12 are not too many.
        edge(13, "it has more than 12", () -> {
            UnionFamilies x = of("points 7;set fg;set ab;set ac;set ad;set ae;set af;set ag;set bc;set bd;set be;set bf;set bg;");
            due("twelve", x.family(2), 12);
            due("basis", x.basis(), 12);
            due("the last one", x.generator(11, 0), F | G);
            due("the first one", x.generator(0, 0), A | B);
        });
        edge(13, "they are so", () -> {
            UnionFamilies x = of("set a;set b;set cd;");
            refused(x, "basis", () -> x.basis());
            UnionFamilies y = of("set b;set a;");
            y.basis();
            refused(y, "basis again", () -> y.basis());
        });
        edge(13, "NONE, and nothing happens", () -> {
            leavesNoMark("points 4;set a;set b;", "basis that is so", x -> x.basis());
            losesNoAct("set a;set b;", "basis", x -> x.basis());
            UnionFamilies none = new UnionFamilies();
            refused(none, "no GENERATORS", () -> none.basis());
        });
    }

    private static UnionFamilies listing(String text, int from, int to) {
        UnionFamilies x = of(text);
        for (int set = from; set <= to; set++) {
            x.list(set);
        }
        return x;
    }

    private static void list() {
        edge(14, "how many it has", () -> {
            UnionFamilies x = of("points 5;");
            for (int set = 1; set <= 20; set++) {
                due("list", x.list(set), set);
            }
            due("an act each, of which 12 stay", x.count(3), 12);
        });
        edge(14, "NONE, and nothing happens", () -> {
            leavesNoMark(IDLE_AB, "list of what is on it", o -> o.list(C));
            losesNoAct("", "empty", x -> x.list(0));
            losesNoAct("", "of other POINTS", x -> x.list(16));
            UnionFamilies x = listing("points 5;", 1, 20);
            refused(x, "a 21st", () -> x.list(21));
            for (int left = 11; left >= 0; left--) {
                due("undo", x.undo(), left);
            }
            due("eight are left", listOf(x), "a,b,ab,c,ac,bc,abc,d");
        });
        edge(14, "it is empty", () -> {
            UnionFamilies x = new UnionFamilies();
            refused(x, "list(0)", () -> x.list(0));
        });
        edge(14, "of other POINTS", () -> {
            UnionFamilies x = of("points 3;");
            refused(x, "list(d)", () -> x.list(D));
            refused(x, "list(ad)", () -> x.list(A | D));
            refused(x, "list(-1)", () -> x.list(-1));
            refused(x, "list(least)", () -> x.list(LEAST));
            refused(x, "list(greatest)", () -> x.list(GREATEST));
            due("all of them", x.list(7), 1);
            UnionFamilies seven = of("points 7;");
            refused(seven, "list(128)", () -> seven.list(128));
            due("list(127)", seven.list(127), 1);
        });
        edge(14, "on it", () -> {
            UnionFamilies x = listing("set abcd;", 1, 4);
            refused(x, "the first", () -> x.list(1));
            refused(x, "the last", () -> x.list(4));
            due("a GENERATOR", x.list(15), 5);
            x.strike(0);
            due("what went", x.list(1), 5);
        });
        edge(14, "there are 20", () -> {
            UnionFamilies x = listing("points 5;", 1, 19);
            due("the 20th", x.list(20), 20);
            refused(x, "the 21st", () -> x.list(21));
            x.strike(0);
            due("the 20th again", x.list(21), 20);
        });
    }

    private static void strike() {
        edge(15, "The i-th SET of the LIST goes: how many are left", () -> {
            UnionFamilies x = listing("", 1, 4);
            due("the first", x.strike(0), 3);
            due("what is left", listOf(x), "b,ab,c");
            due("the last", x.strike(2), 2);
            due("what is left", listOf(x), "b,ab");
            x.strike(1);
            due("the only one", x.strike(0), 0);
            UnionFamilies full = listing("points 5;", 1, 20);
            due("of 20 the last", full.strike(19), 19);
            due("the one ahead of it", full.listed(18), 19);
        });
        edge(15, "NONE, and nothing happens: no such one.", () -> {
            leavesNoMark(IDLE_AB, "strike of no such one", o -> o.strike(1));
            UnionFamilies x = listing("", 1, 3);
            refused(x, "strike(3)", () -> x.strike(3));
            refused(x, "strike(-1)", () -> x.strike(-1));
            refused(x, "strike(least)", () -> x.strike(LEAST));
            refused(x, "strike(greatest)", () -> x.strike(GREATEST));
            UnionFamilies full = listing("points 5;", 1, 20);
            refused(full, "strike(20) of 20", () -> full.strike(20));
            losesNoAct("", "strike(0) of none", o -> o.strike(0));
        });
    }

    private static void adopt() {
        edge(16, "GENERATORS become the SETS of the LIST, in order: how many", () -> {
            UnionFamilies x = of("set a;set b;");
            x.list(B);
            due("one", x.adopt(), 1);
            due("what stands", state(x), "points 4;set b; list b acts 2 tape 0 members 2");
            UnionFamilies y = listing("", 1, 12);
            y.strike(0);
            y.list(1);
            due("twelve", y.adopt(), 12);
            due("the last one", y.generator(11, 0), 1);
        });
        edge(16, "NONE, and nothing happens", () -> {
            leavesNoMark("points 4;set c;", "adopt of what is so", o -> o.adopt());
            losesNoAct("set a;", "adopt of none", x -> x.adopt());
            UnionFamilies x = listing("points 5;set a;", 1, 13);
            refused(x, "thirteen", () -> x.adopt());
            for (int left = 11; left >= 0; left--) {
                due("undo", x.undo(), left);
            }
            due("what is left", listOf(x), "a");
        });
        edge(16, "it is empty", () -> {
            UnionFamilies x = of("set a;");
            refused(x, "adopt", () -> x.adopt());
            UnionFamilies none = new UnionFamilies();
            refused(none, "no GENERATORS", () -> none.adopt());
        });
        edge(16, "it has more than 12", () -> {
            UnionFamilies x = listing("", 1, 13);
            refused(x, "13", () -> x.adopt());
            x.strike(12);
            due("12", x.adopt(), 12);
            UnionFamilies full = listing("points 5;", 1, 20);
            refused(full, "20", () -> full.adopt());
        });
        edge(16, "they are so", () -> {
            UnionFamilies x = listing("set a;set b;", 1, 2);
            refused(x, "both the same", () -> x.adopt());
            due("in another order", listing("set b;set a;", 1, 2).adopt(), 2);
            due("one GENERATOR more", listing("set a;set b;set c;", 1, 2).adopt(), 2);
            due("one GENERATOR less", listing("set a;", 1, 2).adopt(), 2);
            due("the first one is unlike", listing("set c;set b;", 1, 2).adopt(), 2);
            due("the last one is unlike", listing("set a;set c;", 1, 2).adopt(), 2);
        });
    }

    private static void undo() {
        edge(17, "The latest ACT is taken back", () -> {
            ACTS.forEach((name, act) -> {
                takesBack(name, act);
                leavesNoMark(IDLE_AB, "undo of " + name, x -> {
                    act.applyAsInt(x);
                    x.undo();
                });
            });
        });
        edge(17, "how many more can be", () -> {
            UnionFamilies x = new UnionFamilies();
            x.generate(A);
            x.generate(B);
            due("of two", x.undo(), 1);
            due("of one", x.undo(), 0);
            aroundTheRing();
        });
        edge(17, "NONE: none can.", () -> {
            UnionFamilies x = new UnionFamilies();
            refused(x, "of a new object", () -> x.undo());
            x.generate(A);
            x.undo();
            refused(x, "all are taken back", () -> x.undo());
            x.generate(0);
            refused(x, "behind a call that was refused", () -> x.undo());
            UnionFamilies y = of("set a;");
            refused(y, "behind a TEXT", () -> y.undo());
        });
    }

    private static void takesBack(String call, ToIntFunction<UnionFamilies> act) {
        UnionFamilies x = prepared(IDLE_AB);
        feed(x, "set");
        String before = state(x);
        due(call + " happens", act.applyAsInt(x) != NONE, true);
        due("an act more behind " + call, x.count(3), 2);
        due("undo of " + call, x.undo(), 1);
        due("as it was ahead of " + call, state(x), before);
    }

    /** Long runs of acts, each taken back as it was, wherever the oldest one stands. */
    private static void aroundTheRing() {
        UnionFamilies x = of("points 7;");
        for (int round = 1; round <= 5; round++) {
            for (int set = 1; set <= 7; set++) {
                x.list(20 * round + set);
            }
            for (int i = 0; i < 7; i++) {
                x.strike(0);
            }
            due("12 at most", x.count(3), 12);
            for (int left = 11; left >= 7; left--) {
                due("undo", x.undo(), left);
            }
            due("all but two are back", x.count(2), 5);
            due("the first of these", x.listed(0), 20 * round + 3);
            for (int i = 0; i < 5; i++) {
                x.strike(4 - i);
            }
        }
        due("acts", x.count(3), 12);
    }
}
