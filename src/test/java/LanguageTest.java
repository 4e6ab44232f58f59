import java.io.IOException;
import java.lang.reflect.Array;
import java.lang.reflect.Constructor;
import java.lang.reflect.Field;
import java.lang.reflect.Method;
import java.lang.reflect.Modifier;
import java.nio.file.Files;
import java.nio.file.Path;
import java.util.IdentityHashMap;
import java.util.Map;
import java.util.Set;
import java.util.TreeSet;

/** What can be seen of LANGUAGE.md's rules without reading the program; run it from the project's root. */
final class LanguageTest {
    private static final Path SOURCE = Path.of("src/main/java/AirByYard.java");
    private static final String[] BANNED_WORDS = {
        "throw", "throws", "try", "catch", "finally", "synchronized", "assert", "import", "package", "volatile",
        "native", "transient", "strictfp", "float", "double", "Object", "hashCode", "toString", "random", "System.out",
        "Thread", "protected",
    };
    private static final String[] BANNED_SIGNS = {"Exact(", "->", "::"};
    private static final String[] FACE = {
        "int bird(int,int,int,int,int,int)", "int of(int,int)", "int set(int,int,int)", "int evict(int,boolean)",
        "int row(int,int,int)", "int feed(int)", "int estuary()", "int told(int)", "int held(int,int)", "int free(int)",
        "int clash(int,int)", "int worst()", "int pass(int)", "int on(int,int)", "int empty(int)", "int lower(int,int)",
        "int sooner(int,int)", "int let(int)", "int whoEvict()", "long ways(int)", "int outs(int)",
        "int see(int,int,boolean,int)", "int can(int,int)", "long odds(int,int)", "long mean(int)",
        "int lease(int,int,int)", "int leased(int)", "int book(int,int)", "int looked()", "int judge(int,int)",
        "int image()", "int undo()", "int act(int,int,int)", "int trace(int)", "int taken(int,int)", "int count(int)",
        "int tape(int,int,int)", "int item(int,int,long)", "long read(int,int)", "int shift(int,int,int,int,int)",
    };
    /** The room of all calls of a run, as rule 12 and the project count it. */
    private static final int MOST_OBJECTS = 600_000, MOST_ELEMENTS = 7_300_000, MOST_LINES = 60;
    private static int wrong = 0;

    public static void main(String[] args) throws IOException, IllegalAccessException {
        String source = Files.readString(SOURCE);
        words(source);
        lengths(source);
        face();
        names();
        room();
        System.out.println("LanguageTest: " + (wrong == 0 ? "the rules are kept" : wrong + " rules are broken"));
        if (wrong != 0) System.exit(1);
    }

    private static void say(boolean good, String what) {
        if (good) return;
        wrong++;
        System.out.println("LANGUAGE.md: " + what);
    }

    private static void words(String source) {
        String bare = source.replaceAll("(?s)/\\*.*?\\*/", " ").replaceAll("//[^\n]*", " ").replaceAll("\"[^\"\n]*\"", "\"\"");
        for (String word : BANNED_WORDS) say(!bare.matches("(?s).*\\b" + word + "\\b.*"), "the word " + word);
        for (String sign : BANNED_SIGNS) say(!bare.contains(sign), "the sign " + sign);
        for (int i = 0; i < source.length(); i++) {
            if (source.charAt(i) > 126) {
                say(false, "a sign beyond 126 at " + i);
                return;
            }
        }
        int all = bare.split("\\bnew \\w+").length - 1;
        int made = 0;
        for (String line : bare.split("\n")) {
            boolean kept = line.matches(".*\\bfinal .*= new .*;|\\s+\\w+\\[\\w\\] = new \\w+\\(\\);|\\s+\\w+ = new int\\[most\\];");
            if (line.contains("new ") && kept) made++;
        }
        say(made == all, "all is made once, in fields and constructors");
    }

    /** A method ends at the brace that stands as far in as its head. */
    private static void lengths(String source) {
        String[] lines = source.split("\n");
        for (int i = 0; i < lines.length; i++) {
            if (!lines[i].matches("( {4}| {8})[\\w\\[\\] ]+\\([^;]*\\) \\{") || lines[i].matches(" +(if|for|while|switch) .*")) continue;
            String end = lines[i].substring(0, lines[i].indexOf(lines[i].strip())) + "}";
            int j = i;
            while (j < lines.length && !lines[j].equals(end)) j++;
            say(j - i < MOST_LINES, lines[i].strip() + " has " + (j - i + 1) + " lines");
        }
    }

    /** What an object holds when it is new is all that it ever makes, for no call makes any. */
    private static void room() throws IllegalAccessException {
        int[] sizes = {0, 0};
        measure(new AirByYard(), new IdentityHashMap<>(), sizes);
        say(sizes[0] <= MOST_OBJECTS / 100, sizes[0] + " objects");
        say(sizes[1] <= MOST_ELEMENTS / 100, sizes[1] + " fields and elements");
        int[] later = {0, 0};
        measure(Witness.full(), new IdentityHashMap<>(), later);
        say(later[0] == sizes[0] && later[1] == sizes[1], "a full one has " + later[0] + " objects and " + later[1]
            + " fields and elements, a new one " + sizes[0] + " and " + sizes[1]);
    }

    private static void measure(Object o, Map<Object, Object> met, int[] sizes) throws IllegalAccessException {
        if (o == null || met.put(o, o) != null) return;
        sizes[0]++;
        if (o.getClass().isArray()) {
            sizes[1] += Array.getLength(o);
            for (int i = 0; i < Array.getLength(o) && o instanceof Object[]; i++) measure(Array.get(o, i), met, sizes);
            return;
        }
        for (Field f : o.getClass().getDeclaredFields()) {
            if (Modifier.isStatic(f.getModifiers())) continue;
            sizes[1]++;
            f.setAccessible(true);
            if (!f.getType().isPrimitive()) measure(f.get(o), met, sizes);
        }
    }

    private static void face() {
        Set<String> want = new TreeSet<>(Set.of(FACE)), got = new TreeSet<>();
        for (Method m : AirByYard.class.getDeclaredMethods()) {
            if (!Modifier.isPrivate(m.getModifiers())) got.add(sign(m));
        }
        say(got.equals(want), "the face is " + got + ", due is " + want);
        for (Constructor<?> c : AirByYard.class.getDeclaredConstructors()) {
            say(Modifier.isPublic(c.getModifiers()) && c.getParameterCount() == 0, "constructor " + c);
        }
        Set<String> open = new TreeSet<>();
        for (Field f : AirByYard.class.getDeclaredFields()) {
            if (!Modifier.isPrivate(f.getModifiers())) open.add(f.getName());
        }
        say(open.equals(Set.of("NONE", "BAD", "STATE", "FULL", "NO")), "constants " + open);
        say(Modifier.isFinal(AirByYard.class.getModifiers()), "the class is final");
    }

    private static String sign(Method m) {
        StringBuilder s = new StringBuilder(m.getReturnType().getName() + " " + m.getName() + "(");
        for (Class<?> c : m.getParameterTypes()) s.append(s.charAt(s.length() - 1) == '(' ? "" : ",").append(c.getName());
        return s + ")";
    }

    private static void names() {
        Set<String> open = new TreeSet<>();
        for (String f : FACE) open.add(f.substring(f.indexOf(' ') + 1, f.indexOf('(')));
        check(AirByYard.class, open);
        for (Class<?> c : AirByYard.class.getDeclaredClasses()) {
            say(Modifier.isStatic(c.getModifiers()), c + " is static");
            check(c, open);
        }
        say(AirByYard.class.getDeclaredClasses().length <= 12, "at most 12 classes");
    }

    private static void check(Class<?> c, Set<String> open) {
        int fields = 0;
        for (Field f : c.getDeclaredFields()) {
            boolean isStatic = Modifier.isStatic(f.getModifiers());
            say(!isStatic || Modifier.isFinal(f.getModifiers()), f + " is final");
            if (!isStatic) fields++;
        }
        say(fields <= 20, c + " has " + fields + " fields");
        for (Method m : c.getDeclaredMethods()) {
            say(m.getParameterCount() <= 7, m + " has at most 7 parameters");
            say(Modifier.isPublic(m.getModifiers()) || !open.contains(m.getName()), m + " bears the name of a public one");
        }
    }
}
