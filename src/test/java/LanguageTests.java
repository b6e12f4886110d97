import java.lang.reflect.Constructor;
import java.lang.reflect.Field;
import java.lang.reflect.Method;
import java.lang.reflect.Modifier;
import java.nio.file.Files;
import java.nio.file.Path;
import java.util.ArrayList;
import java.util.Arrays;
import java.util.HashSet;
import java.util.List;
import java.util.Set;
import java.util.TreeSet;
import java.util.regex.Matcher;
import java.util.regex.Pattern;

/** The face of the class, the rules of LANGUAGE.md that can be seen in the source, and what calls leave in the room. */
public final class LanguageTests {
    private static final String SOURCE = "src/main/java/ByTheFlame.java";
    private static final String[] FACE = {
        "int wick(int,int,int)", "int set(int,int,int)", "int told(int,int)", "int feed(int)", "int text()",
        "int force(int)", "int light(int,int)", "int burn(int)", "int out(int)", "int spans(int,int)",
        "int tell(int,int,int)", "int between(int,int)", "int worth(int,int)", "long sure(int)", "int cheat(int)",
        "int which(int)", "int copies(int,int,int)", "int best(int,int,int)", "int judge(int)", "int drawn(int)",
        "long chance(int,int,int,int)", "int image()", "int back()", "int count(int)", "int sheet(int,int,int)",
        "int cell(int,int,int)", "int copy(int,int,int,int,int)", "int wicks(int,int,int,int)", "int taken(int,int)"};
    private static int wrong = 0;

    public static void main(String[] args) throws Exception {
        face();
        String code = withoutComments(Files.readString(Path.of(SOURCE)));
        words(code);
        calls(code);
        shape(code);
        room();
        System.out.println(wrong == 0 ? "the language is kept to" : wrong + " breaks of the language");
        if (wrong != 0) {
            System.exit(1);
        }
    }

    private static void check(boolean fine, String what) {
        if (!fine) {
            wrong++;
            System.out.println(what);
        }
    }

    private static void face() {
        Class<?> c = ByTheFlame.class;
        check(Modifier.isPublic(c.getModifiers()) && Modifier.isFinal(c.getModifiers()), "the class is public and final");
        Set<String> methods = new TreeSet<>();
        Set<String> names = new HashSet<>();
        for (Method m : c.getDeclaredMethods()) {
            if (!Modifier.isPrivate(m.getModifiers())) {
                String types = Arrays.toString(m.getParameterTypes()).replaceAll("[\\[\\] ]", "");
                methods.add(m.getReturnType() + " " + m.getName() + "(" + types + ")");
                names.add(m.getName());
                check(Modifier.isPublic(m.getModifiers()), "not public: " + m);
            }
        }
        check(methods.equals(new TreeSet<>(Arrays.asList(FACE))), "the methods: " + methods);
        Set<String> constants = new TreeSet<>();
        for (Field f : c.getDeclaredFields()) {
            if (!Modifier.isPrivate(f.getModifiers())) {
                constants.add(f.getType() + " " + f.getName());
            }
        }
        check(constants.equals(new TreeSet<>(List.of("int NONE", "int BAD", "int STATE", "int FULL", "long NO"))), "constants: " + constants);
        Constructor<?>[] made = c.getDeclaredConstructors();
        check(made.length == 1 && made[0].getParameterCount() == 0 && Modifier.isPublic(made[0].getModifiers()), "one constructor");
        members(c, names);
    }

    private static void members(Class<?> face, Set<String> names) {
        List<Class<?>> all = new ArrayList<>(Arrays.asList(face.getDeclaredClasses()));
        check(all.size() <= 12, "too many classes");
        for (Class<?> c : all) {
            check(Modifier.isStatic(c.getModifiers()) && !Modifier.isPublic(c.getModifiers()), "a class inside: " + c);
            for (Method m : c.getDeclaredMethods()) {
                check(!names.contains(m.getName()), "bears a public name: " + m);
            }
        }
        all.add(face);
        for (Class<?> c : all) {
            int own = 0;
            for (Field f : c.getDeclaredFields()) {
                own += Modifier.isStatic(f.getModifiers()) ? 0 : 1;
                check(!Modifier.isStatic(f.getModifiers()) || Modifier.isFinal(f.getModifiers()), "not final: " + f);
            }
            check(own <= 20, "too many fields: " + c);
            for (Method m : c.getDeclaredMethods()) {
                check(m.getParameterCount() <= 7, "too many parameters: " + m);
                check(!Modifier.isPrivate(m.getModifiers()) || !names.contains(m.getName()), "bears a public name: " + m);
            }
        }
    }

    private static String withoutComments(String source) {
        return source.replaceAll("(?s)/\\*.*?\\*/", "").replaceAll("//[^\n]*", "");
    }

    private static void words(String code) {
        String[] ruledOut = {"throw", "throws", "try", "catch", "finally", "synchronized", "assert", "protected", "native",
            "volatile", "var", "record", "hashCode", "toString", "Object", "System\\.(?!arraycopy)", "Integer\\.MAX_VALUE",
            "Integer\\.MIN_VALUE", "package", "double", "float"};
        for (String word : ruledOut) {
            check(!Pattern.compile("\\b" + word + (word.endsWith(")") ? "" : "\\b")).matcher(code).find(), "ruled out: " + word);
        }
        check(!code.contains("->") && !code.contains("::"), "a lambda or method reference");
        check(!Pattern.compile("static\\s*\\{").matcher(code).find(), "a static initialiser");
        Matcher imports = Pattern.compile("import ([^;]+);").matcher(code);
        while (imports.find()) {
            check(imports.group(1).equals("java.util.Arrays"), "imported: " + imports.group(1));
        }
        for (int i = 0; i < code.length(); i++) {
            check(code.charAt(i) < 128, "a sign above 127");
        }
    }

    private static void calls(String code) {
        Matcher library = Pattern.compile("\\b(Math|Arrays|System|Integer|Long)\\.(\\w+)").matcher(code);
        Set<String> fine = Set.of("Math.max", "Math.min", "Arrays.fill", "System.arraycopy");
        while (library.find()) {
            check(fine.contains(library.group()), "not in the library: " + library.group());
        }
    }

    /** No method is longer than some sixty lines, no loop stands without a counter. */
    private static void shape(String code) {
        String[] lines = code.split("\n");
        int from = -1;
        for (int i = 0; i < lines.length; i++) {
            check(lines[i].length() <= 120, "a long line: " + (i + 1));
            if (lines[i].matches(" {4}( {4})?[a-z][^=;]*\\) \\{")) {
                from = i;
            }
            if (lines[i].matches(" {4}( {4})?\\}") && from >= 0) {
                check(i - from <= 60, "a long method at line " + (from + 1));
                from = -1;
            }
        }
        check(!Pattern.compile("\\bwhile\\b").matcher(code).find(), "a while: its end must be seen; use a counter");
    }

    /** Calls make nothing: all rows are made with the object. */
    private static void room() {
        com.sun.management.ThreadMXBean threads =
                (com.sun.management.ThreadMXBean) java.lang.management.ManagementFactory.getThreadMXBean();
        long ahead = 0;
        for (int round = 0; round < 2; round++) {
            ByTheFlame x = new ByTheFlame();
            ahead = threads.getThreadAllocatedBytes(Thread.currentThread().getId());
            dear(x);
            ahead = threads.getThreadAllocatedBytes(Thread.currentThread().getId()) - ahead;
        }
        check(ahead < 4096, "calls leave " + ahead + " bytes in the room");
    }

    private static void dear(ByTheFlame x) {
        for (int w = 0; w < 4; w++) {
            x.wick(5 - w, w, 99 - 7 * w);
        }
        for (int i = 0; i < 20; i++) {
            x.set(0, 0, 50 + i);
            x.tell(15, 40 + i, 1);
            x.sure(15);
            x.worth(15, 0);
            x.image();
            x.light(1, 1);
            x.back();
            x.sheet(0, i % 3, 40);
            x.sheet(1, 2, 39);
            x.judge(1);
            x.feed('c');
            x.text();
            x.chance(i, 20, 30, 0);
            x.best(0, 12, 1);
        }
    }
}
