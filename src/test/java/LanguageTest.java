import java.io.IOException;
import java.lang.reflect.Constructor;
import java.lang.reflect.Field;
import java.lang.reflect.Method;
import java.lang.reflect.Modifier;
import java.nio.file.Files;
import java.nio.file.Paths;
import java.util.ArrayList;
import java.util.Arrays;
import java.util.List;
import java.util.Map;
import java.util.Set;
import java.util.TreeMap;
import java.util.TreeSet;
import java.util.regex.Matcher;
import java.util.regex.Pattern;

/** The rules of LANGUAGE.md that can be seen on the class and in its text. */
public final class LanguageTest {
    private static final String[] FACE = {
        "int person(int,int,int)", "int of(int,int)", "int grace(int,int,int)", "int leave(int,boolean)", "int row(int,int,int)",
        "int hour(int)", "int feed(int)", "int office()", "int told(int)", "int pass(int)", "int on(int,int)", "int seenAt(int,int)",
        "int when(int,int)", "int line(int)", "int jointly(int,int)", "int pairs(int)", "int raises(int)",
        "int see(int,int,boolean,int)", "int tastes(int)", "int graces(int,int,int)", "int can(int,int)", "long odds(int,int,int)",
        "long mean(int,int)", "int plan(int,int)", "int ends(int)", "int book(int,int)", "int looked()", "int judge(int,int)",
        "int image()", "int undo()", "int act(int,int,int)", "int trace(int)", "int taken(int,int)", "int count(int)",
        "int tape(int,int,int)", "int item(int,int,long)", "long read(int,int)", "int shift(int,int,int,int,int)"
    };
    private static final Set<Class<?>> CONSTANTS = Set.of(int.class, long.class, boolean.class, char.class, String.class, int[].class,
        long[].class, char[].class, byte[].class);

    /** What is read and acted in itself: parts of a text, and bodies that call others. */
    private static final Set<String> RECURSIVE = Set.of("readsEither", "readsBoth", "readsPart", "perform", "run");

    public static void main(String[] args) throws Exception {
        constants();
        face();
        for (Class<?> inside : ExemptBeauty.class.getDeclaredClasses()) {
            insideIsStatic(inside);
        }
        fields(ExemptBeauty.class);
        text(Paths.get(args.length > 0 ? args[0] : ".", "src/main/java/ExemptBeauty.java").toString());
        Due.end();
    }

    private static void constants() {
        Due.is("NONE", ExemptBeauty.NONE, -1);
        Due.is("BAD", ExemptBeauty.BAD, -2);
        Due.is("STATE", ExemptBeauty.STATE, -3);
        Due.is("FULL", ExemptBeauty.FULL, -4);
        Due.is("NO", ExemptBeauty.NO, Long.MIN_VALUE);
    }

    private static void face() {
        Class<?> it = ExemptBeauty.class;
        Due.holds("rule 1: public and final", Modifier.isPublic(it.getModifiers()) && Modifier.isFinal(it.getModifiers()));
        Due.holds("no package", it.getPackage().getName().isEmpty());
        Set<String> found = new TreeSet<>();
        Set<String> names = new TreeSet<>();
        for (Method m : it.getDeclaredMethods()) {
            if (Modifier.isPublic(m.getModifiers())) {
                String types = Arrays.toString(m.getParameterTypes()).replaceAll("[\\[\\] ]", "");
                found.add(m.getReturnType() + " " + m.getName() + "(" + types + ")");
                names.add(m.getName());
            }
        }
        Due.holds("rule 1: the face is " + found, found.equals(new TreeSet<>(Arrays.asList(FACE))));
        for (Method m : it.getDeclaredMethods()) {
            boolean isPublic = Modifier.isPublic(m.getModifiers());
            Due.holds("rule 1: " + m, isPublic || m.isSynthetic() || Modifier.isPrivate(m.getModifiers()));
            Due.holds("rule 1: private, but named as a public one: " + m, isPublic || !names.contains(m.getName()));
        }
        Constructor<?>[] made = it.getDeclaredConstructors();
        Due.holds("rule 1: one constructor", made.length == 1 && made[0].getParameterCount() == 0
            && Modifier.isPublic(made[0].getModifiers()));
        Set<String> open = new TreeSet<>();
        for (Field f : it.getDeclaredFields()) {
            if (!Modifier.isPrivate(f.getModifiers())) {
                open.add(f.getName());
            }
        }
        Due.holds("rule 1: constants " + open, open.equals(new TreeSet<>(List.of("NONE", "BAD", "STATE", "FULL", "NO"))));
    }

    private static void insideIsStatic(Class<?> inside) {
        int modifiers = inside.getModifiers();
        Due.holds("rule 1: " + inside, !Modifier.isPublic(modifiers) && !Modifier.isProtected(modifiers));
        Due.holds("rule 2: " + inside, Modifier.isStatic(modifiers) && !inside.isAnonymousClass() && !inside.isLocalClass());
        fields(inside);
        for (Method m : inside.getDeclaredMethods()) {
            Due.holds("rule 6: " + m, !Set.of("equals", "hashCode", "toString").contains(m.getName()));
        }
    }

    private static void fields(Class<?> it) {
        int own = 0;
        for (Field f : it.getDeclaredFields()) {
            boolean isStatic = Modifier.isStatic(f.getModifiers());
            own += isStatic ? 0 : 1;
            Due.holds("rule 5: " + f, !isStatic || Modifier.isFinal(f.getModifiers()) && CONSTANTS.contains(f.getType()));
        }
        Due.holds("rule 11: fields of " + it, own <= 20);
        for (Method m : it.getDeclaredMethods()) {
            Due.holds("rule 11: parameters of " + m, m.getParameterCount() <= 7);
        }
    }

    private static void text(String file) throws IOException {
        String source = Files.readString(Paths.get(file));
        for (char c : source.toCharArray()) {
            Due.holds("rule 4: sign " + (int) c, c >= 1 && c <= 127);
        }
        String bare = source.replaceAll("(?s)/\\*.*?\\*/", "").replaceAll("//[^\n]*", "")
            .replaceAll("\"[^\"\n]*\"", "\"\"").replaceAll("'[^'\n]'", "' '");
        String[] refused = {"throw", "throws", "try", "catch", "finally", "synchronized", "assert", "native", "volatile", "strictfp",
            "float", "double", "Object", "System.out", "Thread", "Exception", "var", "yield"};
        for (String word : refused) {
            Due.holds("rule 6: no " + word, !Pattern.compile("\\b" + Pattern.quote(word) + "\\b").matcher(bare).find());
        }
        Due.holds("rule 2: no lambda", !bare.contains("->") && !bare.contains("::"));
        Due.holds("rule 9: while", !Pattern.compile("\\bwhile\\b").matcher(bare).find());
        Matcher imports = Pattern.compile("import ([^;]*);").matcher(bare);
        while (imports.find()) {
            Due.holds("rule 4: " + imports.group(), Set.of("java.util.Arrays", "java.util.ArrayList", "java.util.List")
                .contains(imports.group(1)));
        }
        Matcher calls = Pattern.compile("\\b(Math|Integer|Long|System|Arrays|List)\\.(\\w+)").matcher(bare);
        Set<String> known = Set.of("Math.abs", "Math.max", "Math.min", "Integer.bitCount", "System.arraycopy", "Arrays.fill",
            "Long.MIN_VALUE");
        while (calls.find()) {
            Due.holds("rule 4: " + calls.group(), known.contains(calls.group()));
        }
        Matcher classes = Pattern.compile("\\b(class|record|enum|interface) [A-Z]").matcher(bare);
        int many = 0;
        while (classes.find()) {
            many++;
        }
        Due.holds("rule 11: classes: " + many, many <= 12);
        lengths(bare.split("\n"));
        Map<String, Set<String>> called = called(bare.split("\n"));
        for (String method : called.keySet()) {
            int deep = deepest(method, called, new TreeSet<>());
            Due.holds("rule 11: " + method + " goes " + deep + " deep", deep <= 8);
        }
    }

    /** By a method's name, the names of those that it calls; of methods that share a name, all together. */
    private static Map<String, Set<String>> called(String[] lines) {
        Map<String, Set<String>> called = new TreeMap<>();
        Set<String> within = new TreeSet<>();
        for (String line : lines) {
            Matcher head = Pattern.compile("^(?: {4}| {8})[a-z][\\w\\[\\] .,<>]* (\\w+)\\([\\w\\[\\] ,]*\\) \\{$").matcher(line);
            if (head.matches()) {
                within = called.computeIfAbsent(head.group(1), name -> new TreeSet<>());
                continue;
            }
            Matcher call = Pattern.compile("\\b(\\w+)\\(").matcher(line);
            while (call.find()) {
                within.add(call.group(1));
            }
        }
        return called;
    }

    /** How many methods of the class stand open at most, this one too; those that call themselves, by others or not, count 0. */
    private static int deepest(String method, Map<String, Set<String>> called, Set<String> open) {
        if (!called.containsKey(method) || open.contains(method)) {
            return 0;
        }
        open.add(method);
        int deepest = 0;
        for (String next : called.get(method)) {
            deepest = Math.max(deepest, deepest(next, called, open));
        }
        open.remove(method);
        return deepest + (RECURSIVE.contains(method) ? 0 : 1);
    }

    /** A method ends at the brace that stands where its first line begins. */
    private static void lengths(String[] lines) {
        List<String> heads = new ArrayList<>();
        for (int i = 0; i < lines.length; i++) {
            if (lines[i].matches("(    |        )[a-z][\\w\\[\\] .,<>]*\\([\\w\\[\\] ,]*\\) \\{")) {
                String indent = lines[i].substring(0, lines[i].length() - lines[i].stripLeading().length());
                int end = i;
                while (end < lines.length && !lines[end].equals(indent + "}")) {
                    end++;
                }
                heads.add(lines[i]);
                Due.holds("rule 11: " + (end - i + 1) + " lines of" + lines[i], end - i < 60);
            }
        }
        Due.holds("methods found: " + heads.size(), heads.size() > 80);
    }
}
