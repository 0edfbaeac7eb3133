import java.io.File;
import java.io.IOException;
import java.lang.reflect.Method;
import java.nio.charset.StandardCharsets;
import java.nio.file.Files;
import java.nio.file.Path;
import java.util.ArrayList;
import java.util.List;
import java.util.Set;
import java.util.TreeSet;
import java.util.regex.Matcher;
import java.util.regex.Pattern;

/** What README.md says must be so: its examples are run, its lists are held against the document and the tests. */
public final class ReadmeTest {
    private static final Pattern STEP = Pattern.compile("x\\.(\\w+)\\(([^)]*)\\); +// (-?\\d+|NONE|true|false): (.+)");
    private static final Pattern EXAMPLE = Pattern.compile("`(\\w+)\\(([^)]*)\\)` (-?\\d+|NONE|true|false)");
    private static final Pattern SIGNATURE = Pattern.compile("(?:int|boolean) (\\w+)\\([^)]*\\)");
    private static final Pattern TOLD = Pattern.compile("\\| `([^`]+)` \\| (-?\\d+) \\| .*\\|");
    private static final Pattern TEST_NAME = Pattern.compile("(?m)^- `(\\w+Test)`: ");
    private static final String MADE = "UnionFamilies x = new UnionFamilies();";

    private static int wrong = 0;
    private static int asked = 0;

    public static void main(String[] args) throws IOException, ReflectiveOperationException {
        String page = Files.readString(Path.of("README.md"), StandardCharsets.UTF_8);
        String document = Files.readString(Path.of("../shared/DOC.md"), StandardCharsets.UTF_8);
        codeRuns(page);
        textsAnswer(page);
        callsAnswer(page);
        eachCallIsThere(page, document);
        eachTestIsThere(page);
        System.out.println(asked + " things of README.md looked at, " + wrong + " are wrong");
        if (wrong != 0) {
            System.exit(1);
        }
    }

    private static void due(String what, Object got, Object want) {
        asked++;
        if (!got.equals(want)) {
            wrong++;
            System.out.println("README.md: " + what + " is " + got + ", due is " + want);
        }
    }

    private static void due(boolean holds, String what) {
        due(what, holds, true);
    }

    /** The lines of code, one after the other, each with its answer behind it. */
    private static void codeRuns(String page) throws ReflectiveOperationException {
        int blocks = 0;
        for (Matcher block = Pattern.compile("(?s)```java\n(.*?)```").matcher(page); block.find();) {
            blocks++;
            UnionFamilies x = null;
            for (String line : block.group(1).split("\n")) {
                Matcher step = STEP.matcher(line);
                if (line.equals(MADE)) {
                    x = new UnionFamilies();
                } else if (x != null && step.matches()) {
                    due(line, answer(x, step.group(1), step.group(2)), step.group(3));
                    if (step.group(1).equals("feed")) {
                        due("what '" + step.group(2) + "' tells", '"' + bytesOf(step.group(2)) + '"', step.group(4));
                    }
                } else {
                    due(false, "line that can be run: " + line);
                }
            }
        }
        due("how many blocks of code", blocks, 2);
    }

    private static String answer(UnionFamilies x, String name, String given) throws ReflectiveOperationException {
        String[] words = given.isEmpty() ? new String[0] : given.split(", ");
        for (Method m : UnionFamilies.class.getMethods()) {
            if (m.getName().equals(name) && m.getParameterCount() == words.length) {
                Object[] values = new Object[words.length];
                for (int i = 0; i < words.length; i++) {
                    boolean yesOrNo = m.getParameterTypes()[i] == boolean.class;
                    values[i] = yesOrNo ? (Object) words[i].equals("true") : (Object) number(words[i]);
                }
                return told(m.invoke(x, values));
            }
        }
        return "no such call";
    }

    private static String told(Object answer) {
        return answer.equals(UnionFamilies.NONE) ? "NONE" : answer.toString();
    }

    private static int number(String word) {
        if (word.equals("NONE")) {
            return UnionFamilies.NONE;
        }
        return word.startsWith("0b") ? Integer.parseInt(word.substring(2), 2) : Long.decode(word).intValue();
    }

    private static String bytesOf(String given) {
        StringBuilder out = new StringBuilder();
        for (String word : given.split(", ")) {
            for (int shift = 24; shift >= 0; shift -= 8) {
                out.append((char) (number(word) >> shift & 255));
            }
        }
        return out.toString();
    }

    private static void textsAnswer(String page) {
        int texts = 0;
        for (String line : page.split("\n")) {
            Matcher row = TOLD.matcher(line);
            if (row.matches()) {
                texts++;
                due("text() of '" + row.group(1) + "'", Edges.tell(new UnionFamilies(), row.group(1)), Integer.valueOf(row.group(2)));
            }
        }
        due("how many rows of TEXTS", texts, 18);
    }

    /** Each example is the first call of an object that was told what the page says. */
    private static void callsAnswer(String page) throws ReflectiveOperationException {
        String text = found(page, "told the TEXT\n\n    ([^\n]+)\n");
        String[] members = found(page, "(?s)Its MEMBERS, from 0 on, are the empty SET, ([^.]+)\\.").split(",\\s+");
        due("MEMBERS of the example", Edges.membersOf(example(text)), "," + String.join(",", members));
        due("the LIST of the example", Edges.listOf(example(text)), found(page, "the LIST ([a-g, ]+)\\.").replace(" ", ""));
        for (String line : page.split("\n")) {
            if (!line.startsWith("| `int ") && !line.startsWith("| `boolean ")) {
                continue;
            }
            String[] cells = line.split(" \\| ");
            String examples = cells[cells.length - 1].replaceAll(" \\|$", "");
            String own = found(line, SIGNATURE.pattern());
            due("cells of the row of " + own, cells.length, 3);
            due("what is no example in the row of " + own, examples.replaceAll(EXAMPLE.pattern(), "").replace(", ", ""), "");
            Matcher one = EXAMPLE.matcher(examples);
            while (one.find()) {
                due("the example's call", one.group(1), own);
                due(one.group(1) + "(" + one.group(2) + ")", answer(example(text), one.group(1), one.group(2)), one.group(3));
            }
        }
    }

    private static UnionFamilies example(String text) {
        UnionFamilies x = Edges.of(text);
        x.list(3);
        x.list(5);
        return x;
    }

    private static String found(String in, String pattern) {
        Matcher m = Pattern.compile(pattern).matcher(in);
        boolean there = m.find();
        due(there, "'" + pattern + "' is there");
        return there ? m.group(1) : "";
    }

    /** The rows tell the calls as the document's face does, all of them, in its order. */
    private static void eachCallIsThere(String page, String document) {
        List<String> rows = new ArrayList<>();
        for (String line : page.split("\n")) {
            if (line.startsWith("| `int ") || line.startsWith("| `boolean ")) {
                rows.add(line.substring(3, line.indexOf('`', 3)));
            }
        }
        List<String> face = new ArrayList<>();
        for (Matcher m = Pattern.compile("    public ((?:int|boolean) \\w+\\([^)]*\\));").matcher(document); m.find();) {
            face.add(m.group(1));
        }
        due("how many calls the face has", face.size(), 52);
        due("calls that have no row", less(face, rows), Set.of());
        due("rows of no call", less(rows, face), Set.of());
        due(rows.equals(face), "each call has one row, in the document's order");
    }

    private static Set<String> less(List<String> all, List<String> some) {
        Set<String> out = new TreeSet<>(all);
        some.forEach(out::remove);
        return out;
    }

    private static void eachTestIsThere(String page) {
        Set<String> told = new TreeSet<>();
        for (Matcher m = TEST_NAME.matcher(page); m.find();) {
            told.add(m.group(1) + ".java");
        }
        String[] files = new File("src/test/java").list();
        due("the tests", told, new TreeSet<>(files == null ? List.of() : List.of(files)));
    }
}
