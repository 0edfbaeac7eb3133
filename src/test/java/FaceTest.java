import java.lang.reflect.Constructor;
import java.lang.reflect.Field;
import java.lang.reflect.Method;
import java.lang.reflect.Modifier;
import java.nio.charset.StandardCharsets;
import java.nio.file.Files;
import java.nio.file.Path;
import java.util.ArrayList;
import java.util.Arrays;
import java.util.List;
import java.util.Set;
import java.util.TreeSet;
import java.util.regex.Matcher;
import java.util.regex.Pattern;

/** The public face, as the document has it, and the rules of the language that a test can see. */
public final class FaceTest {
    private static final String[] FACE = {
        "int feed(int, int, int, int, int)", "int back(int)", "int text()", "int generate(int)", "boolean drop(int)",
        "int change(int, int)", "int weigh(int, int)", "int swap(int, int)", "int turn()", "int without(int)", "int lean()",
        "int basis()", "int list(int)", "int strike(int)", "int adopt()", "int undo()", "int generator(int, int)",
        "int member(int)", "int place(int)", "int based(int)", "int point(int, int)", "int family(int)", "int sized(int)",
        "int mean(int, boolean)", "int mass(int)", "int inner(int)", "int hull(int)", "int trace(int, int)",
        "int part(int, boolean, int)", "int covers(int, int)", "int degree(int, boolean)", "int single()",
        "int both(int, int, int)", "int unshared()", "int chain(int)", "int common(int, int)", "int ranked(int)",
        "int nested(int, boolean)", "int crossing()", "int parts()", "int shattered(int)", "int fewest(int)",
        "int withSet(int)", "int withoutGenerator(int)", "int gentlest()", "int spoiler()", "int proof()", "int listed(int)",
        "int refused(int)", "int needs()", "int spell(int)", "int count(int)"};
    private static final String[] REFUSED_WORDS = {
        "throw", "try", "catch", "finally", "synchronized", "assert", "package", "volatile", "transient", "native",
        "hashCode", "equals", "toString", "MAX_VALUE", "MIN_VALUE", "var", "System", "Object"};

    private static int wrong = 0;

    public static void main(String[] args) throws Exception {
        face();
        hidden();
        source();
        extremes();
        System.out.println(wrong == 0 ? "the face and the language are as due" : wrong + " things are not as due");
        if (wrong != 0) {
            System.exit(1);
        }
    }

    private static void due(boolean holds, String what) {
        if (!holds) {
            wrong++;
            System.out.println("not so: " + what);
        }
    }

    private static String told(Method m) {
        StringBuilder out = new StringBuilder(m.getReturnType().getSimpleName()).append(' ').append(m.getName()).append('(');
        for (int i = 0; i < m.getParameterCount(); i++) {
            out.append(i == 0 ? "" : ", ").append(m.getParameterTypes()[i].getSimpleName());
        }
        return out.append(')').toString();
    }

    private static void face() throws Exception {
        Class<?> c = UnionFamilies.class;
        due(Modifier.isPublic(c.getModifiers()) && Modifier.isFinal(c.getModifiers()), "the class is public and final");
        Set<String> methods = new TreeSet<>();
        for (Method m : c.getDeclaredMethods()) {
            if (!Modifier.isPrivate(m.getModifiers())) {
                methods.add(told(m));
                due(Modifier.isPublic(m.getModifiers()) && !Modifier.isStatic(m.getModifiers()), m + " is public and of objects");
            }
        }
        due(methods.equals(new TreeSet<>(Arrays.asList(FACE))), "the methods are those of the document: " + methods);
        due(c.getDeclaredConstructors().length == 1, "there is one constructor");
        for (Constructor<?> made : c.getDeclaredConstructors()) {
            due(Modifier.isPublic(made.getModifiers()) && made.getParameterCount() == 0, "the constructor is public, of nothing");
        }
        for (Field f : c.getDeclaredFields()) {
            due(Modifier.isPrivate(f.getModifiers()) || f.getName().equals("NONE"), f + " is private");
            due(!Modifier.isStatic(f.getModifiers()) || Modifier.isFinal(f.getModifiers()), f + " is final");
        }
        due(UnionFamilies.NONE == -1, "NONE is -1");
    }

    private static void hidden() {
        Set<String> names = new TreeSet<>();
        for (String told : FACE) {
            names.add(told.replaceAll("^\\w+ |\\(.*", ""));
        }
        List<Class<?>> all = new ArrayList<>(Arrays.asList(UnionFamilies.class.getDeclaredClasses()));
        due(all.size() <= 12, "there are at most twelve classes");
        for (Class<?> c : all) {
            due(Modifier.isStatic(c.getModifiers()) && !Modifier.isPublic(c.getModifiers()), c + " is static and not public");
            due(c.getDeclaredFields().length <= 20, c + " has at most twenty fields");
            for (Method m : c.getDeclaredMethods()) {
                due(!names.contains(m.getName()), m + " has a name of its own");
                due(m.getParameterCount() <= 7, m + " has at most seven parameters");
            }
        }
        for (Method m : UnionFamilies.class.getDeclaredMethods()) {
            due(!Modifier.isPrivate(m.getModifiers()) || !names.contains(m.getName()), m + " has a name of its own");
        }
    }

    private static void source() throws Exception {
        String text = Files.readString(Path.of("src/main/java/UnionFamilies.java"), StandardCharsets.UTF_8);
        due(text.chars().allMatch(c -> c < 128), "the source has plain signs alone");
        String code = text.replaceAll("(?s)/\\*.*?\\*/", "").replaceAll("//[^\n]*", "");
        for (String word : REFUSED_WORDS) {
            Matcher found = Pattern.compile("\\b" + word + "\\b").matcher(code);
            due(!found.find(), "the word " + word + " is not used");
        }
        due(!code.contains("->") && !code.contains("::"), "there is no lambda and no method reference");
        for (Matcher m = Pattern.compile("import ([^;]+);").matcher(code); m.find();) {
            due(m.group(1).equals("java.util.Arrays"), "import of " + m.group(1));
        }
        int start = -1;
        String[] lines = code.split("\n");
        for (int i = 0; i < lines.length; i++) {
            if (lines[i].matches(" +(public |private )?(static )?\\w+(\\[\\])? ?\\w*\\(.*\\) \\{") && !lines[i].matches(".*\\b(if|for|while|switch)\\b.*")) {
                start = i;
            } else if (lines[i].isBlank() && start >= 0) {
                due(i - start <= 60, "the method is short: " + lines[start].trim());
                start = -1;
            }
        }
    }

    /** Arguments far outside, in an empty and in a full state: no call throws. */
    private static void extremes() throws Exception {
        int[] odd = {Integer.MIN_VALUE, Integer.MIN_VALUE + 1, -129, -3, -2, -1, 0, 1, 7, 8, 12, 20, 31, 32, 127, 128, 300, 1 << 30, Integer.MAX_VALUE};
        for (int state = 0; state < 3; state++) {
            UnionFamilies x = new UnionFamilies();
            for (int set = 1; set < 16 * state; set++) {
                x.generate(set % 16);
                x.list(set % 16);
            }
            for (Method m : UnionFamilies.class.getMethods()) {
                if (m.getDeclaringClass() == UnionFamilies.class) {
                    tryAll(x, m, odd);
                }
            }
        }
    }

    private static void tryAll(UnionFamilies x, Method m, int[] odd) throws Exception {
        Object[] given = new Object[m.getParameterCount()];
        for (int i = 0; i < odd.length * odd.length; i++) {
            for (int p = 0; p < given.length; p++) {
                int value = odd[p == 0 ? i % odd.length : i / odd.length];
                given[p] = m.getParameterTypes()[p] == boolean.class ? (Object) (i % 2 == 0) : (Object) value;
            }
            try {
                m.invoke(x, given);
            } catch (java.lang.reflect.InvocationTargetException e) {
                due(false, m + " of " + Arrays.toString(given) + " threw " + e.getCause());
                return;
            }
        }
    }
}
