import java.lang.reflect.Constructor;
import java.lang.reflect.Field;
import java.lang.reflect.Method;
import java.lang.reflect.Modifier;
import java.nio.file.Files;
import java.nio.file.Path;
import java.util.ArrayList;
import java.util.Arrays;
import java.util.List;
import java.util.Set;
import java.util.TreeSet;
import java.util.regex.Matcher;
import java.util.regex.Pattern;

/** Those rules of LANGUAGE.md that can be seen in the source or in the compiled class. */
public final class RuleRuns {
    private static final String SOURCE = "src/main/java/TornStreams.java";
    private static final String[] FACE = {
        "public int type(int)", "public int clear()", "public int define(int)", "public int forget(int)",
        "public int letter(int,int)", "public int node(int,int)", "public int next(int,int)",
        "public int set(int,int)", "public int segment(int,int)", "public int finish(int)",
        "public int flow(int)", "public int property(int,int)", "public int byteAt(int,int)",
        "public long possible(int)", "public int read(int,int)", "public int find(int,int)",
        "public int told(int)", "public int ifSegment(int,int)", "public int replay(int,int)",
        "public int evasions(int)", "public int nearest(int)", "public int undo()", "public long digest()"};
    private static final String[] FORBIDDEN = {
        "\\bthrows?\\b", "\\btry\\b", "\\bcatch\\b", "\\bfinally\\b", "\\bsynchronized\\b", "\\bassert\\b",
        "\\bprotected\\b", "\\bpackage\\b", "->", "::", "\\bstatic\\s*\\{", "Exact\\b", "\\bSystem\\.(?!arraycopy\\b)",
        "\\bRandom\\b", "\\bThread\\b", "\\bObject\\b", "\\bhashCode\\b", "\\btoString\\b", "\\bvar\\b",
        "\\bMap\\b", "\\bSet\\b", "\\bException\\b", "\\bimport (?!java\\.util\\.(Arrays|ArrayList|List);)"};

    private static int wrong = 0;

    private static void check(boolean holds, String what) {
        if (!holds) {
            wrong++;
            System.out.println(what);
        }
    }

    private static String withoutComments(String s) {
        return s.replaceAll("(?s)/\\*.*?\\*/", "").replaceAll("//[^\n]*", "");
    }

    private static void words(String source) {
        for (String forbidden : FORBIDDEN) {
            Matcher m = Pattern.compile(forbidden).matcher(source);
            check(!m.find(), "the source has what matches " + forbidden);
        }
        check(source.chars().allMatch(c -> c == '\n' || c >= 32 && c < 127), "the source has odd signs");
    }

    private static void lengths(String source) {
        String name = "";
        int start = -1;
        String[] lines = source.split("\n");
        Pattern head = Pattern.compile("^( {4}| {8})[a-zA-Z].*?(\\w+)\\([^)]*\\) \\{$");
        for (int i = 0; i < lines.length; i++) {
            Matcher m = head.matcher(lines[i]);
            if (m.find() && start < 0) {
                name = m.group(1) + "}";
                start = i;
            } else if (start >= 0 && lines[i].equals(name)) {
                check(i - start + 1 <= 60, "the method at line " + (start + 1) + " has " + (i - start + 1) + " lines");
                start = -1;
            }
        }
    }

    private static void face() {
        Set<String> want = new TreeSet<>(Arrays.asList(FACE));
        Set<String> got = new TreeSet<>();
        Set<String> names = new TreeSet<>();
        for (Method m : TornStreams.class.getDeclaredMethods()) {
            if (!Modifier.isPrivate(m.getModifiers())) {
                got.add(m.toString().replace("TornStreams.", ""));
                names.add(m.getName());
            }
        }
        check(got.equals(want), "the public methods are " + got);
        for (Class<?> c : classes()) {
            for (Method m : c.getDeclaredMethods()) {
                boolean isOfFace = c == TornStreams.class && !Modifier.isPrivate(m.getModifiers());
                check(isOfFace || !names.contains(m.getName()), c + " has another " + m.getName());
            }
        }
        for (Field f : TornStreams.class.getDeclaredFields()) {
            boolean isOfFace = List.of("BAD", "STATE", "FULL", "NONE").contains(f.getName());
            check(isOfFace == Modifier.isPublic(f.getModifiers()), "field " + f);
            check(isOfFace || Modifier.isPrivate(f.getModifiers()), "field " + f);
        }
        check(TornStreams.class.getDeclaredConstructors().length == 1, "constructors");
        check(Modifier.isFinal(TornStreams.class.getModifiers()), "the class is not final");
        check(TornStreams.class.getSuperclass() == Object.class, "the class extends another");
    }

    private static List<Class<?>> classes() {
        List<Class<?>> all = new ArrayList<>();
        all.add(TornStreams.class);
        all.addAll(Arrays.asList(TornStreams.class.getDeclaredClasses()));
        return all;
    }

    private static void shapes() {
        check(classes().size() <= 12, "too many classes");
        for (Class<?> c : classes()) {
            int fields = 0;
            for (Field f : c.getDeclaredFields()) {
                boolean isStatic = Modifier.isStatic(f.getModifiers());
                check(!isStatic || Modifier.isFinal(f.getModifiers()), "a static field that is not final: " + f);
                fields += isStatic ? 0 : 1;
                check(!f.isSynthetic(), "a field that was made for " + f);
            }
            check(fields <= 20, c + " has " + fields + " fields");
            for (Method m : c.getDeclaredMethods()) {
                check(m.getParameterCount() <= 7, m + " has too many parameters");
            }
            for (Constructor<?> k : c.getDeclaredConstructors()) {
                check(k.getParameterCount() <= 7, k + " has too many parameters");
            }
            check(c == TornStreams.class || Modifier.isStatic(c.getModifiers()), c + " is not static");
            check(c == TornStreams.class || !Modifier.isPublic(c.getModifiers()), c + " is public");
        }
    }

    public static void main(String[] args) throws Exception {
        String source = withoutComments(Files.readString(Path.of(SOURCE)));
        words(source);
        lengths(source);
        face();
        shapes();
        System.out.println("rules of the language: " + wrong + " broken");
        if (wrong != 0) {
            System.exit(1);
        }
    }
}
