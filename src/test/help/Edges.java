import java.io.IOException;
import java.nio.charset.StandardCharsets;
import java.nio.file.Files;
import java.nio.file.Path;
import java.util.ArrayList;
import java.util.List;
import java.util.Map;
import java.util.TreeMap;
import java.util.function.IntSupplier;
import java.util.regex.Matcher;
import java.util.regex.Pattern;

/**
 * What the tests of edges share. An edge is a piece of the document's words that names a boundary case,
 * with a test of its own; the words are looked up in the document, so that none is made up and none is left out.
 */
abstract class Edges {
    protected static final int NONE = -1;
    protected static final int LACKS = -2;
    protected static final int LEAST = Integer.MIN_VALUE;
    protected static final int GREATEST = Integer.MAX_VALUE;
    protected static final int A = 1;
    protected static final int B = 2;
    protected static final int C = 4;
    protected static final int D = 8;
    protected static final int E = 16;
    protected static final int F = 32;
    protected static final int G = 64;
    /** The number under which the document's "Terms" are quoted, ahead of the promises. */
    protected static final int TERMS = 0;
    protected static final String TWELVE =
        "points 5;set a;set b;set c;set d;set e;set ab;set ac;set ad;set ae;set bc;set bd;set be;";
    protected static final String ALL_SETS = "points 7;set a;set b;set c;set d;set e;set f;set g;";

    private static final Path DOCUMENT = Path.of("../shared/DOC.md");
    private static final Pattern EDGE_WORDS = Pattern.compile(
        "NONE|-2|-4|\\b(nothing|empty|none|no such|such one|others|of other POINTS|another|below|above 0|more than|or more|at most|not so many"
        + "|else|at first|the first|the last|the latest|once|at once|too|alike|unlike|it is so|they are so|told already"
        + "|out of bounds|would|never|half|just one|not empty|least terms|too early|all anew|all else)\\b|\\d \\.\\. \\d");

    private static final Map<Integer, List<String>> QUOTED = new TreeMap<>();
    private static int wrong = 0;
    private static int asked = 0;
    private static int edges = 0;
    private static String current = "";

    interface Body {
        void run();
    }

    protected static void edge(int promise, String words, Body body) {
        QUOTED.computeIfAbsent(promise, p -> new ArrayList<>()).add(words);
        edges++;
        current = (promise == TERMS ? "Terms" : "promise " + promise) + ", \"" + words + "\"";
        int before = asked;
        body.run();
        if (asked == before) {
            fail("asks nothing");
        }
    }

    private static void fail(String what) {
        wrong++;
        System.out.println(current + ": " + what);
    }

    protected static void due(String call, long got, long want) {
        asked++;
        if (got != want) {
            fail(call + " answered " + got + ", due is " + want);
        }
    }

    protected static void due(String call, boolean got, boolean want) {
        due(call, got ? 1 : 0, want ? 1 : 0);
    }

    protected static void due(String what, String got, String want) {
        asked++;
        if (!got.equals(want)) {
            fail(what + " is '" + got + "', due is '" + want + "'");
        }
    }

    /** The call answers so, and nothing happens. */
    protected static void stays(UnionFamilies x, String call, IntSupplier asking, int want) {
        String before = state(x);
        due(call, asking.getAsInt(), want);
        due("what stands behind " + call, state(x), before);
    }

    /** The call is refused with NONE, and nothing happens. */
    protected static void refused(UnionFamilies x, String call, IntSupplier asking) {
        stays(x, call, asking, NONE);
    }

    /** All that can be asked of what calls change, but for the bytes of the tape. */
    protected static String state(UnionFamilies x) {
        StringBuilder out = new StringBuilder(told(x));
        out.append(" list ").append(listOf(x));
        out.append(" acts ").append(x.count(3)).append(" tape ").append(x.count(4)).append(" members ").append(x.family(0));
        return out.toString();
    }

    protected static String told(UnionFamilies x) {
        StringBuilder out = new StringBuilder("points ").append(x.count(0)).append(';');
        for (int p = 0; p < x.count(0); p++) {
            if (x.point(p, 2) != 1) {
                out.append("weight ").append((char) ('a' + p)).append(' ').append(x.point(p, 2)).append(';');
            }
        }
        for (int g = 0; g < x.count(1); g++) {
            out.append("set ").append(letters(x.generator(g, 0))).append(';');
        }
        return out.toString();
    }

    protected static String listOf(UnionFamilies x) {
        StringBuilder out = new StringBuilder();
        for (int i = 0; i < x.count(2); i++) {
            out.append(i == 0 ? "" : ",").append(letters(x.listed(i)));
        }
        return out.toString();
    }

    protected static String membersOf(UnionFamilies x) {
        StringBuilder out = new StringBuilder();
        for (int k = 0; k < x.family(0); k++) {
            out.append(k == 0 ? "" : ",").append(letters(x.member(k)));
        }
        return out.toString();
    }

    protected static String spelled(UnionFamilies x) {
        StringBuilder out = new StringBuilder();
        int size = x.spell(NONE);
        for (int i = 0; i < size; i++) {
            out.append((char) x.spell(i));
        }
        return out.toString();
    }

    protected static String letters(int set) {
        StringBuilder out = new StringBuilder();
        for (int p = 0; p < 31; p++) {
            if ((set >> p & 1) != 0) {
                out.append((char) ('a' + p));
            }
        }
        return set < 0 ? "no set" : out.toString();
    }

    protected static void feed(UnionFamilies x, String told) {
        StringBuilder padded = new StringBuilder(told);
        while (padded.length() % 20 != 0) {
            padded.append('#');
        }
        for (int i = 0; i < padded.length(); i += 20) {
            x.feed(word(padded, i), word(padded, i + 4), word(padded, i + 8), word(padded, i + 12), word(padded, i + 16));
        }
        x.back(padded.length() - told.length());
    }

    protected static int word(CharSequence told, int at) {
        return told.charAt(at) << 24 | told.charAt(at + 1) << 16 | told.charAt(at + 2) << 8 | told.charAt(at + 3);
    }

    protected static int tell(UnionFamilies x, String told) {
        feed(x, told);
        return x.text();
    }

    protected static UnionFamilies of(String told) {
        UnionFamilies x = new UnionFamilies();
        if (tell(x, told) < 0) {
            fail("the text '" + told + "' of the test has a fault");
        }
        return x;
    }

    /** The text has its fault there; all else stays, the tape is empty. */
    protected static void fault(String told, int at) {
        UnionFamilies x = of("points 3;weight b 4;set ab;");
        x.list(A);
        String before = state(x);
        due("text of '" + told + "'", tell(x, told), -4 - at);
        due("what stands behind '" + told + "'", state(x), before);
    }

    /** The text stands, and tells what another one tells. */
    protected static void stands(String told, String want) {
        UnionFamilies x = new UnionFamilies();
        int got = tell(x, told);
        due("text of '" + told + "'", got, x.count(1));
        due("what '" + told + "' tells", told(x), want);
    }

    protected static void end(int from, int to) {
        Map<Integer, String> sections = sections();
        for (int promise = from; promise <= to; promise++) {
            current = promise == TERMS ? "Terms" : "promise " + promise;
            lookUp(sections.getOrDefault(promise, ""), QUOTED.getOrDefault(promise, List.of()));
        }
        System.out.println(edges + " edges, " + asked + " answers asked, " + wrong + " are wrong");
        if (wrong != 0) {
            System.exit(1);
        }
    }

    private static Map<Integer, String> sections() {
        Map<Integer, String> out = new TreeMap<>();
        try {
            String all = Files.readString(DOCUMENT, StandardCharsets.UTF_8);
            for (String section : all.split("(?m)^## ")) {
                Matcher head = Pattern.compile("^(Terms|Promise (\\d+))").matcher(section);
                if (head.find()) {
                    out.put(head.group(2) == null ? TERMS : Integer.parseInt(head.group(2)), section.replaceAll("\\s+", " "));
                }
            }
        } catch (IOException e) {
            current = DOCUMENT.toString();
            fail("can't be read");
        }
        return out;
    }

    private static void lookUp(String section, List<String> quoted) {
        boolean[] covered = new boolean[section.length()];
        for (String words : quoted) {
            int at = section.indexOf(words);
            if (at < 0 || section.indexOf(words, at + 1) >= 0) {
                fail("the document does not say once: " + words);
            }
            for (int i = Math.max(at, 0); at >= 0 && i < at + words.length(); i++) {
                covered[i] = true;
            }
        }
        for (Matcher found = EDGE_WORDS.matcher(section); found.find();) {
            if (!covered[found.start()]) {
                int from = Math.max(0, found.start() - 40);
                fail("no test quotes '" + found.group() + "' in: .. " + section.substring(from, Math.min(section.length(), found.end() + 40)));
            }
        }
        if (quoted.isEmpty()) {
            fail("has no test of an edge");
        }
    }
}
