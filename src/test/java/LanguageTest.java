import java.io.IOException;
import java.io.PrintWriter;
import java.io.StringWriter;
import java.lang.reflect.Array;
import java.lang.reflect.Constructor;
import java.lang.reflect.Field;
import java.lang.reflect.Method;
import java.lang.reflect.Modifier;
import java.nio.file.Files;
import java.nio.file.Path;
import java.util.ArrayList;
import java.util.Collections;
import java.util.IdentityHashMap;
import java.util.List;
import java.util.Map;
import java.util.Optional;
import java.util.Set;
import java.util.TreeMap;
import java.util.TreeSet;
import java.util.regex.Matcher;
import java.util.regex.Pattern;
import java.util.spi.ToolProvider;

/** What of LANGUAGE.md can be seen in the source and the compiled class: words, the face, lengths, what is made. */
public final class LanguageTest {
    private static final String FACE = "alike(int,int)int;beats(int,int)int;began(int)int;boats(int,int)int;"
            + "book(int,int)int;bribe(int,int)boolean;costs(int,int)int;cross(int)int;end(int)boolean;fault(int)int;"
            + "feed(int,int,int,int,int)int;game(int)int;image(boolean)boolean;log()int;look(int)int;makes(int,int)int;"
            + "middle(int)int;of(int,int)int;passenger(int,boolean,int,int)int;pivots(int)int;reaches(int)int;"
            + "season(int,int)int;seen(int)int;set(int,int,int)boolean;state(int)int;stay(int,boolean)boolean;"
            + "sway(int,int)int;text(int)int;undo()boolean;wins(int)int;would(int,int)int;";
    private static final String[] BANNED = {"throw", "try", "catch", "synchronized", "assert", "->", "::", "System.out",
        "Exact", "Random", "Thread", "hashCode", "double", "float", "@"};

    /** Of what LANGUAGE.md lists, all that the class needs. */
    private static final Set<String> LIBRARY = Set.of("java.lang.Object.<init>", "java.lang.Integer.bitCount",
            "java.lang.Integer.numberOfTrailingZeros", "java.lang.Math.max", "java.lang.Math.min",
            "java.lang.String.charAt", "java.lang.String.indexOf", "java.lang.String.length",
            "java.lang.System.arraycopy", "java.util.Arrays.fill");

    private LanguageTest() {
    }

    public static void main(String[] args) throws IOException, IllegalAccessException {
        String source = Files.readString(Path.of("src/main/java/VotedBank.java"));
        face();
        names();
        words(source);
        methods(source);
        room();
        calls();
        Due.end();
    }

    private static void face() {
        TreeSet<String> found = new TreeSet<>();
        for (Method m : VotedBank.class.getDeclaredMethods()) {
            if (Modifier.isPublic(m.getModifiers())) {
                StringBuilder s = new StringBuilder(m.getName()).append('(');
                for (Class<?> c : m.getParameterTypes()) {
                    s.append(s.charAt(s.length() - 1) == '(' ? "" : ",").append(c.getName());
                }
                found.add(s.append(')').append(m.getReturnType().getName()).append(';').toString());
            } else {
                Due.due(m + " is private", Modifier.isPrivate(m.getModifiers()) || m.isSynthetic(), true);
            }
        }
        Due.due("the face: " + found, String.join("", found).equals(FACE), true);
        for (Field f : VotedBank.class.getDeclaredFields()) {
            boolean isNone = f.getName().equals("NONE") && Modifier.isPublic(f.getModifiers());
            Due.due(f + " is private", Modifier.isPrivate(f.getModifiers()) || isNone, true);
        }
        Constructor<?>[] made = VotedBank.class.getDeclaredConstructors();
        Due.due("one constructor", made.length, 1);
        Due.due("a public one", Modifier.isPublic(made[0].getModifiers()), true);
        Due.due("final", Modifier.isFinal(VotedBank.class.getModifiers()), true);
        Due.due("some twelve classes", VotedBank.class.getDeclaredClasses().length <= 12, true);
    }

    private static void names() {
        TreeSet<String> faceNames = new TreeSet<>();
        for (String s : FACE.split(";")) {
            faceNames.add(s.substring(0, s.indexOf('(')));
        }
        for (Class<?> c : VotedBank.class.getDeclaredClasses()) {
            Due.due(c + " is static", Modifier.isStatic(c.getModifiers()), true);
            Due.due(c + " has some twenty fields", fieldsOf(c) <= 20, true);
            for (Method m : c.getDeclaredMethods()) {
                Due.due(m + " bears no name of the face", faceNames.contains(m.getName()), false);
                Due.due(m + " takes seven at most", m.getParameterCount() <= 7, true);
            }
        }
    }

    private static int fieldsOf(Class<?> c) {
        int n = 0;
        for (Field f : c.getDeclaredFields()) {
            n += Modifier.isStatic(f.getModifiers()) ? 0 : 1;
        }
        return n;
    }

    private static void words(String source) {
        String code = source.replaceAll("(?s)/\\*.*?\\*/", "").replaceAll("//.*", "").replaceAll("\"[^\"]*\"", "\"\"");
        for (String word : BANNED) {
            String pattern = Character.isLetter(word.charAt(0)) ? "\\b" + Pattern.quote(word) + "\\b" : Pattern.quote(word);
            Due.due("'" + word + "' stands in the source", Pattern.compile(pattern).matcher(code).find(), false);
        }
        Matcher imports = Pattern.compile("import ([^;]*);").matcher(code);
        while (imports.find()) {
            Due.due("import " + imports.group(1), imports.group(1).equals("java.util.Arrays"), true);
        }
        Due.due("texts joined by +", Pattern.compile("\"\\s*\\+|\\+\\s*\"").matcher(code).find(), false);
        Due.due("a sign above 127", source.chars().anyMatch(c -> c > 127), false);
    }

    /** What one object holds; since methods make nothing, it is all that a run of calls makes. */
    private static void room() throws IllegalAccessException {
        Set<Object> met = Collections.newSetFromMap(new IdentityHashMap<>());
        int elements = elementsOf(new VotedBank(), met);
        System.out.println(met.size() + " objects and arrays, " + elements + " fields and elements");
        Due.due("objects and arrays are few", met.size() <= 200, true);
        Due.due("fields and elements are few", elements <= 8000, true);
    }

    private static int elementsOf(Object x, Set<Object> met) throws IllegalAccessException {
        if (x == null || x instanceof String || !met.add(x)) {
            return 0;
        }
        int elements = 0;
        if (x.getClass().isArray()) {
            elements = Array.getLength(x);
            if (x instanceof Object[] some) {
                for (Object one : some) {
                    elements += elementsOf(one, met);
                }
            }
            return elements;
        }
        for (Field f : x.getClass().getDeclaredFields()) {
            if (!Modifier.isStatic(f.getModifiers())) {
                f.setAccessible(true);
                elements += 1 + (f.getType().isPrimitive() ? 0 : elementsOf(f.get(x), met));
            }
        }
        return elements;
    }

    /** Methods by their first line, with their lines: each ends with a bracket that stands as far in as it begins. */
    private static void methods(String source) {
        Map<String, List<String>> methods = new TreeMap<>();
        List<String> open = null;
        String indent = "";
        for (String line : source.split("\n")) {
            Matcher head = Pattern.compile("^( {4}| {8})[a-zA-Z][\\w \\[\\]]*\\(.*\\) \\{$").matcher(line);
            if (open == null && head.find() && !line.contains(" class ")) {
                indent = head.group(1);
                open = new ArrayList<>();
                methods.put(line.trim() + methods.size(), open);
            } else if (open != null && line.equals(indent + "}")) {
                open = null;
            } else if (open != null) {
                open.add(line);
            }
        }
        Due.due("methods are found", methods.size() > 100, true);
        for (Map.Entry<String, List<String>> m : methods.entrySet()) {
            Due.due(m.getKey() + " has some sixty lines", m.getValue().size() <= 60, true);
            boolean makes = String.join("\n", m.getValue()).contains("new ");
            boolean isConstructor = m.getKey().matches("(public )?[A-Z]\\w*\\(.*");
            Due.due(m.getKey() + " makes objects", makes && !isConstructor, false);
        }
    }

    /** What the compiled methods call: the library's functions that are listed alone, and not too deep. */
    private static void calls() {
        Optional<ToolProvider> javap = ToolProvider.findFirst("javap");
        if (javap.isEmpty()) {
            System.out.println("there is no javap here: what is called was not looked at");
            return;
        }
        Map<String, Set<String>> called = calledBy(disassembled(javap.get()));
        Due.due("methods are found", called.size() > 100, true);
        for (Map.Entry<String, Set<String>> m : called.entrySet()) {
            for (String callee : m.getValue()) {
                Due.due(m.getKey() + " calls " + callee, called.containsKey(callee) || LIBRARY.contains(callee), true);
            }
        }
        for (String method : called.keySet()) {
            List<String> deepest = deepestFrom(method, called, new ArrayList<>());
            Due.due("calls go eight deep at most: " + deepest, deepest.size() <= 8, true);
        }
    }

    private static Map<String, Set<String>> calledBy(String code) {
        Map<String, Set<String>> called = new TreeMap<>();
        String owner = "";
        Set<String> here = new TreeSet<>();
        for (String line : code.split("\n")) {
            Matcher type = Pattern.compile("^(?:\\w+ )*class (\\S+)").matcher(line);
            Matcher head = Pattern.compile("^  (?:\\S+ )*([\\w.$]+)\\(.*\\);$").matcher(line);
            Matcher call = Pattern.compile("// (?:Interface)?Method (\\S+):").matcher(line);
            if (type.find()) {
                owner = type.group(1);
            } else if (head.find()) {
                String name = head.group(1).equals(owner) ? "<init>" : head.group(1);
                here = called.computeIfAbsent(owner + "." + name, key -> new TreeSet<>());
            } else if (call.find()) {
                String callee = call.group(1).replace("\"", "").replace('/', '.');
                here.add(callee.contains(".") ? callee : owner + "." + callee);
            }
        }
        return called;
    }

    private static String disassembled(ToolProvider javap) {
        List<String> arguments = new ArrayList<>(List.of("-c", "-p", "-cp", System.getProperty("java.class.path")));
        arguments.add("VotedBank");
        for (Class<?> c : VotedBank.class.getDeclaredClasses()) {
            arguments.add(c.getName());
        }
        StringWriter out = new StringWriter();
        PrintWriter writer = new PrintWriter(out);
        Due.due("javap", javap.run(writer, writer, arguments.toArray(new String[0])), 0);
        return out.toString();
    }

    /** The longest row of calls from a method; one that is open already is a recursion, and is not gone into. */
    private static List<String> deepestFrom(String method, Map<String, Set<String>> called, List<String> open) {
        open.add(method);
        List<String> deepest = new ArrayList<>();
        for (String callee : called.get(method)) {
            if (called.containsKey(callee) && !open.contains(callee)) {
                List<String> row = deepestFrom(callee, called, open);
                deepest = row.size() > deepest.size() ? row : deepest;
            }
        }
        open.remove(open.size() - 1);
        deepest.add(0, method);
        return deepest;
    }
}
