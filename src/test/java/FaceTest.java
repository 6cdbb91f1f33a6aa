import java.lang.reflect.Constructor;
import java.lang.reflect.Field;
import java.lang.reflect.Method;
import java.lang.reflect.Modifier;
import java.nio.charset.StandardCharsets;
import java.nio.file.Files;
import java.nio.file.Path;
import java.util.ArrayList;
import java.util.Arrays;
import java.util.HashMap;
import java.util.List;
import java.util.Map;
import java.util.Set;
import java.util.TreeSet;
import java.util.regex.Matcher;
import java.util.regex.Pattern;

/** The public face to the letter, and of LANGUAGE.md what can be seen by looking. The argument: the source file. */
public final class FaceTest {
    private static final Set<String> FACE = new TreeSet<>(List.of(
        "int set(int,int,int)", "int party(int,int,int)", "int told(int,int)", "int leap(int,int)", "long floor(int)",
        "int feed(int)", "int text()", "int force(int)", "int minute()", "int run(int,int,int)", "int call(int,int,int)",
        "int meet(int,int)", "long reached(int,int)", "int fewest(int,int)", "int best(int,int,int)", "long mean(int)",
        "int tells(int,int,int)", "long stood(int,int)", "int film(int,int,int)", "int drawn(int,int,int)",
        "long chance(int,int,int,int)", "int image()", "int back()", "int count(int)", "int sheet(int,int,int)",
        "int cell(int,int,int)", "int copy(int,int,int,int,int)", "int suits(int,int,int,int)", "int taken(int,int)"));
    private static final Set<String> CONSTANTS = new TreeSet<>(List.of("int NONE", "int BAD", "int STATE", "int FULL", "long NO"));
    private static final List<String> LIBRARY = List.of("java.util.Arrays", "java.util.ArrayList", "java.util.List");
    private static final List<String> RULED_OUT = List.of("\\bthrow\\b", "\\btry\\b", "\\bcatch\\b", "\\bsynchronized\\b",
        "\\bassert\\b", "->", "::", "\\bimport static\\b", "\\bpackage\\b", "static \\{", "\\bException\\b", "\\bError\\b",
        "\\bequals\\b", "\\bhashCode\\b", "\\btoString\\b", "\\w+Exact\\b", "\\bSystem\\.(?!arraycopy)", "\\bObject\\b");

    private static int wrong = 0;

    private static void must(boolean so, String what) {
        if (!so) {
            wrong++;
            System.out.println("face: " + what);
        }
    }

    public static void main(String[] args) throws Exception {
        Class<?> face = TilesOfLaw.class;
        must(Modifier.isPublic(face.getModifiers()) && Modifier.isFinal(face.getModifiers()), "the class is public and final");
        must(face.getPackageName().isEmpty(), "the class has no package");
        constructors(face);
        methods(face);
        fields(face);
        insides(face);
        if (args.length > 0) source(Files.readString(Path.of(args[0]), StandardCharsets.ISO_8859_1));
        else must(false, "the source file is not told");
        System.out.println("face: " + (wrong == 0 ? "as it must be" : wrong + " faults"));
        if (wrong != 0) System.exit(1);
    }

    private static void constructors(Class<?> face) {
        Constructor<?>[] all = face.getDeclaredConstructors();
        must(all.length == 1 && Modifier.isPublic(all[0].getModifiers()) && all[0].getParameterCount() == 0, "one constructor");
    }

    private static void methods(Class<?> face) {
        Set<String> open = new TreeSet<>();
        Set<String> names = new TreeSet<>();
        for (Method m : face.getDeclaredMethods()) {
            if (Modifier.isPrivate(m.getModifiers())) continue;
            open.add(shape(m));
            names.add(m.getName());
            must(Modifier.isPublic(m.getModifiers()) && !Modifier.isStatic(m.getModifiers()), m + " is public");
        }
        must(open.equals(FACE), "methods are " + open);
        List<Class<?>> all = new ArrayList<>(List.of(face.getDeclaredClasses()));
        all.add(face);
        for (Class<?> c : all) {
            for (Method m : c.getDeclaredMethods()) {
                boolean own = c == face && Modifier.isPublic(m.getModifiers());
                must(own || !names.contains(m.getName()), m + " bears the name of a public one");
                must(m.getParameterCount() <= 7, m + " takes at most seven");
            }
        }
    }

    private static String shape(Method m) {
        StringBuilder parameters = new StringBuilder();
        for (Class<?> p : m.getParameterTypes()) parameters.append(parameters.length() == 0 ? "" : ",").append(p);
        return m.getReturnType() + " " + m.getName() + "(" + parameters + ")";
    }

    private static void fields(Class<?> face) {
        Set<String> open = new TreeSet<>();
        for (Field f : face.getDeclaredFields()) {
            boolean isStatic = Modifier.isStatic(f.getModifiers()), isFinal = Modifier.isFinal(f.getModifiers());
            must(!isStatic || isFinal, f + " is final");
            if (Modifier.isPrivate(f.getModifiers())) continue;
            must(Modifier.isPublic(f.getModifiers()) && isStatic, f + " is public and static");
            open.add(f.getType() + " " + f.getName());
        }
        must(open.equals(CONSTANTS), "constants are " + open);
    }

    private static void insides(Class<?> face) {
        must(face.getDeclaredClasses().length <= 11, "twelve classes at most");
        for (Class<?> c : face.getDeclaredClasses()) {
            must(Modifier.isStatic(c.getModifiers()), c + " is static");
            must(Modifier.isPrivate(c.getModifiers()), c + " is private");
            must(c.getDeclaredClasses().length == 0, c + " has no class inside");
            long fields = Arrays.stream(c.getDeclaredFields()).filter(f -> !Modifier.isStatic(f.getModifiers())).count();
            must(fields <= 20, c + " has twenty fields at most");
        }
    }

    private static void source(String source) {
        for (int k = 0; k < source.length(); k++) must(source.charAt(k) < 128, "a sign beyond 127 at " + k);
        Matcher imports = Pattern.compile("import ([\\w.]+);").matcher(source);
        while (imports.find()) must(LIBRARY.contains(imports.group(1)), imports.group());
        String code = source.replaceAll("(?s)/\\*.*?\\*/", "").replaceAll("//.*", "");
        for (String out : RULED_OUT) {
            Matcher m = Pattern.compile(out).matcher(code);
            if (m.find()) must(false, "ruled out: " + m.group());
        }
        must(!Pattern.compile("\"\\s*\\+|\\+\\s*\"").matcher(code).find(), "texts are not joined by +");
        depth(code);
        room(code);
        int from = -1;
        String[] lines = code.split("\n", -1);
        for (int k = 0; k < lines.length; k++) {
            if (lines[k].matches("( {4}| {8})[\\w<\\[].*\\) \\{")) from = k;
            if (from >= 0 && lines[k].matches("( {4}| {8})\\}")) {
                must(k - from < 60, "sixty lines at most: " + lines[from].trim());
                from = -1;
            }
        }
    }

    /** Rule 12: all that is made is made by constructors, but for the one text and its code that are made as it is read. */
    private static void room(String code) {
        Set<String> makers = Set.of("TilesOfLaw", "Floor", "Law", "Reader", "Sheet", "Text", "readText");
        for (Map.Entry<String, Set<String>> method : calls(code).entrySet()) {
            for (String made : List.of("Text", "Floor", "Law", "Reader", "Sheet", "copyOf", "copyOfRange", "clone", "StringBuilder")) {
                must(!method.getValue().contains(made) || makers.contains(method.getKey()), method.getKey() + " makes " + made);
            }
        }
        must(code.split("\\bnew \\w+\\[").length - 1 == 10, "ten rows are made, all by constructors");
    }

    /** Rule 11: calls that are no recursion go at most eight deep, the library's own calls counted too. */
    private static void depth(String code) {
        Map<String, Set<String>> calls = calls(code);
        must(calls.size() > 80, "the methods are found in the source");
        must(recursive(calls).equals(Set.of("readE", "readAnd", "readNot", "readSum", "readTerm", "readOne")),
            "those that call themselves by others are " + recursive(calls));
        for (String from : calls.keySet()) {
            int deep = depth(from, calls, recursive(calls));
            must(deep <= 8, "calls go " + deep + " deep from " + from);
        }
    }

    /** Whom each method calls. Methods of one name are taken for one, which can only make it deeper. */
    private static Map<String, Set<String>> calls(String code) {
        Map<String, Set<String>> calls = new HashMap<>();
        Set<String> called = null;
        for (String line : code.split("\n")) {
            Matcher head = Pattern.compile("(?: {4}| {8})(?:\\w[\\w\\[\\]]* )*(\\w+)\\([^()]*\\) \\{").matcher(line);
            if (head.matches()) {
                called = calls.computeIfAbsent(head.group(1), name -> new TreeSet<>());
                continue;
            }
            Matcher call = Pattern.compile("(\\w+)\\(").matcher(called == null ? "" : line);
            while (call.find()) if (!Set.of("if", "for", "while", "switch", "return").contains(call.group(1))) called.add(call.group(1));
        }
        return calls;
    }

    private static Set<String> recursive(Map<String, Set<String>> calls) {
        Set<String> all = new TreeSet<>();
        for (String from : calls.keySet()) {
            List<String> line = new ArrayList<>(calls.get(from));
            for (int k = 0; k < line.size(); k++) {
                for (String to : calls.getOrDefault(line.get(k), Set.of())) if (!line.contains(to)) line.add(to);
            }
            if (line.contains(from)) all.add(from);
        }
        return all;
    }

    /** All that is recursion counts for one. */
    private static int depth(String from, Map<String, Set<String>> calls, Set<String> recursive) {
        Set<String> called = new TreeSet<>();
        for (String name : recursive.contains(from) ? recursive : Set.of(from)) called.addAll(calls.getOrDefault(name, Set.of()));
        if (recursive.contains(from)) called.removeAll(recursive);
        int deepest = 0;
        for (String to : called) deepest = Math.max(deepest, depth(to, calls, recursive));
        return deepest + 1;
    }
}
