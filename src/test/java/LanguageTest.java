import java.io.IOException;
import java.io.PrintWriter;
import java.io.StringWriter;
import java.lang.reflect.Field;
import java.lang.reflect.Method;
import java.lang.reflect.Modifier;
import java.nio.charset.StandardCharsets;
import java.nio.file.Files;
import java.nio.file.Path;
import java.util.ArrayList;
import java.util.HashSet;
import java.util.List;
import java.util.Map;
import java.util.Set;
import java.util.TreeMap;
import java.util.TreeSet;
import java.util.regex.Matcher;
import java.util.regex.Pattern;
import java.util.spi.ToolProvider;

/** The rules of ../shared/LANGUAGE.md that the source's words, its classes and their code show. */
public final class LanguageTest {
    private static final int MOST_DEEP = 8;
    private static final Pattern METHOD = Pattern.compile("  \\S.*?([\\w$]+)\\(.*\\);");
    private static final Pattern CALL = Pattern.compile(".*// (?:Interface)?Method (?:([\\w/$]+)\\.)?\"?([<>\\w]+)\"?:.*");
    private static final String LIBRARY = "java/lang/Object\\.<init>|java/lang/System\\.arraycopy"
            + "|java/lang/(Integer|Long|Math)\\.(compare|max|min|abs|bitCount|floorDiv|floorMod)"
            + "|java/lang/String\\.(length|charAt|isEmpty|equals|indexOf|substring|toCharArray|<init>)";

    public static void main(String[] args) throws IOException {
        words();
        List<Class<?>> classes = new ArrayList<>(List.of(TearCustoms.class.getDeclaredClasses()));
        classes.add(TearCustoms.class);
        Check.same("classes: twelve at most", classes.size() <= 12, true);
        for (Class<?> c : classes) {
            shape(c);
            fields(c);
            methods(c);
        }
        code(classes);
        Check.finish();
    }

    private static void words() throws IOException {
        String source = Files.readString(Path.of("src/main/java/TearCustoms.java"), StandardCharsets.ISO_8859_1);
        String[] ruledOut = {
            "\\bthrow\\b", "\\btry\\b", "\\bcatch\\b", "\\bsynchronized\\b", "\\bassert\\b", "->", "::",
            "\\bimport\\b(?! java\\.util\\.(ArrayList|List|Arrays|Iterator);)",
            "\\bpackage\\b", "Exact\\b", "\\bSystem\\.(?!arraycopy)", "[^\\x00-\\x7f]", "\\bnew \\w+\\(.*\\)\\s*\\{",
            "\\.(equals|hashCode|toString)\\(", "\\bObject\\b", "\\bfinalize\\b", "\\bprotected\\b", "@",
            "\\b(Integer|Long|Math)\\.[A-Z]"
        };
        for (String pattern : ruledOut) {
            Check.same("ruled out: " + pattern, Pattern.compile(pattern).matcher(source).find(), false);
        }
        int length = 0;
        for (String line : source.split("\n")) {
            boolean begins = line.matches("    (    )?\\S.*\\) \\{");
            length = begins ? 0 : length + 1;
            if (line.matches("    (    )?\\}")) {
                Check.same("a method of " + length + " lines is short", length <= 60, true);
            }
        }
    }

    private static void shape(Class<?> c) {
        boolean outermost = c == TearCustoms.class;
        Check.same(c + " is static", Modifier.isStatic(c.getModifiers()), !outermost);
        Check.same(c + " is public", Modifier.isPublic(c.getModifiers()), outermost);
        Check.same(c + " has classes inside", c.getDeclaredClasses().length > 0, outermost);
    }

    private static void fields(Class<?> c) {
        int own = 0;
        for (Field f : c.getDeclaredFields()) {
            Class<?> type = f.getType();
            if (Modifier.isStatic(f.getModifiers())) {
                boolean constant = type == int.class || type == long.class || type == boolean.class || type == char.class
                        || type == String.class;
                Check.same(f + " is a constant", Modifier.isFinal(f.getModifiers()) && constant, true);
            } else {
                own++;
                Class<?> of = type.isArray() ? type.getComponentType() : type;
                boolean allowed = of.isPrimitive() || of == String.class || of.getName().startsWith("TearCustoms$");
                Check.same(f + " has a type of the language", allowed, true);
            }
        }
        Check.same(own + " fields of " + c + ": twenty at most", own <= 20, true);
    }

    private static void methods(Class<?> c) {
        Set<String> face = new HashSet<>();
        for (Method m : TearCustoms.class.getDeclaredMethods()) {
            if (Modifier.isPublic(m.getModifiers())) {
                face.add(m.getName());
            }
        }
        for (Method m : c.getDeclaredMethods()) {
            Check.same(m + " has at most seven parameters", m.getParameterCount() <= 7, true);
            boolean ofFace = c == TearCustoms.class && Modifier.isPublic(m.getModifiers());
            Check.same(m + " bears a name of the face", face.contains(m.getName()), ofFace);
        }
    }

    /** What the methods call: of the library what the rules list alone, and their own not too deep. */
    private static void code(List<Class<?>> classes) {
        List<String> asked = new ArrayList<>(List.of("-p", "-c", "-cp", System.getProperty("java.class.path")));
        classes.forEach(c -> asked.add(c.getName()));
        StringWriter out = new StringWriter();
        ToolProvider javap = ToolProvider.findFirst("javap").orElse(null);
        if (javap == null) {
            System.out.println("no javap here: what calls what is not looked at");
            return;
        }
        javap.run(new PrintWriter(out), new PrintWriter(out), asked.toArray(new String[0]));
        String code = out.toString();
        for (String word : new String[] {"athrow", "Exception table", "invokedynamic", "monitorenter"}) {
            Check.same("no " + word, code.contains(word), false);
        }
        Map<String, Set<String>> calls = calls(code);
        Check.same("methods are seen", calls.size() > 100, true);
        for (String method : calls.keySet()) {
            Check.same("calls from " + method + " on: eight deep at most", deep(calls, method, new HashSet<>()) <= MOST_DEEP, true);
        }
    }

    private static Map<String, Set<String>> calls(String code) {
        Map<String, Set<String>> calls = new TreeMap<>();
        String owner = "";
        String method = "";
        for (String line : code.split("\n")) {
            Matcher begin = Pattern.compile("(?!Compiled).*class ([\\w$]+) \\{").matcher(line);
            Matcher head = METHOD.matcher(line);
            Matcher call = CALL.matcher(line);
            if (begin.matches()) {
                owner = begin.group(1);
            } else if (head.matches()) {
                method = owner + "." + (head.group(1).equals(owner) ? "<init>" : head.group(1));
                calls.put(method, new TreeSet<>());
            } else if (call.matches()) {
                String called = (call.group(1) == null ? owner : call.group(1)) + "." + call.group(2);
                if (called.startsWith("TearCustoms")) {
                    calls.get(method).add(called);
                } else {
                    Check.same(method + " calls " + called, called.matches(LIBRARY), true);
                }
            }
        }
        return calls;
    }

    /** The longest chain of calls; a recursion counts once. */
    private static int deep(Map<String, Set<String>> calls, String method, Set<String> open) {
        open.add(method);
        int most = 0;
        for (String next : calls.getOrDefault(method, Set.of())) {
            if (!open.contains(next)) {
                most = Math.max(most, deep(calls, next, open));
            }
        }
        open.remove(method);
        return most + 1;
    }
}
