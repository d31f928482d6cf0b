import java.io.IOException;
import java.lang.reflect.Constructor;
import java.lang.reflect.Field;
import java.lang.reflect.Method;
import java.lang.reflect.Modifier;
import java.nio.charset.StandardCharsets;
import java.nio.file.Files;
import java.nio.file.Path;
import java.util.ArrayList;
import java.util.Arrays;
import java.util.List;
import java.util.TreeSet;
import java.util.regex.Pattern;

/** The public face as the document has it, and those rules of the language that the source's words show. */
public final class FaceTest {
    private static final String[] FACE = {
        "int state(int)", "int traveller(int, int, int)", "int officer(int, int, int)", "boolean set(int, int, int)",
        "boolean act(int, int, int)", "int weigh(int, int)", "int hours(int)", "int feed(int, int, int, int, int)",
        "boolean end(int)", "int text(int)", "int fault(int)", "int of(int, int)", "int who(int, int)",
        "int book(int, int)", "int goes(int, int)", "int rate(int)", "int order(int, int, int)", "int ordered(int)",
        "int hand(int, int)", "int hands(int)", "int weight(int)", "int crates(int, int)", "int bag(int)",
        "int weighed(int, int)", "int suspects(int)", "int driest(int, int, int, int)", "boolean count(int, int, int)",
        "int likely(int, int)", "int salt(int)", "int won(int)", "boolean ledger(int, int)", "int altered(int)",
        "boolean years(int, int)", "int dry(int)", "int votes(int, int)", "int game(int)", "boolean undo()",
        "boolean image(boolean)", "int look(int)"
    };

    public static void main(String[] args) throws IOException {
        face();
        language();
        Check.finish();
    }

    private static void face() {
        TreeSet<String> got = new TreeSet<>();
        for (Method m : TearCustoms.class.getDeclaredMethods()) {
            if (Modifier.isPublic(m.getModifiers()) && !Modifier.isStatic(m.getModifiers())) {
                List<String> types = new ArrayList<>();
                for (Class<?> type : m.getParameterTypes()) {
                    types.add(type.getName());
                }
                got.add(m.getReturnType().getName() + " " + m.getName() + "(" + String.join(", ", types) + ")");
            } else {
                Check.same(m + " is private", Modifier.isPrivate(m.getModifiers()), true);
            }
        }
        TreeSet<String> due = new TreeSet<>(Arrays.asList(FACE));
        Check.same("the face " + got, got.equals(due), true);
        for (Field f : TearCustoms.class.getDeclaredFields()) {
            boolean none = f.getName().equals("NONE");
            Check.same(f + " is private", Modifier.isPrivate(f.getModifiers()), !none);
            Check.same(f + " is public", Modifier.isPublic(f.getModifiers()), none);
        }
        Constructor<?>[] made = TearCustoms.class.getDeclaredConstructors();
        Check.same("constructors", made.length, 1);
        Check.same("parameters of the constructor", made[0].getParameterCount(), 0);
        Check.same("the constructor is public", Modifier.isPublic(made[0].getModifiers()), true);
        Check.same("the class is public and final", TearCustoms.class.getModifiers(), Modifier.PUBLIC | Modifier.FINAL);
        Check.same("NONE", TearCustoms.NONE, -1);
        for (Class<?> c : TearCustoms.class.getDeclaredClasses()) {
            Check.same(c + " is static", Modifier.isStatic(c.getModifiers()), true);
            for (Method m : c.getDeclaredMethods()) {
                Check.same(m + " has at most seven parameters", m.getParameterCount() <= 7, true);
            }
        }
    }

    private static void language() throws IOException {
        String source = Files.readString(Path.of("src/main/java/TearCustoms.java"), StandardCharsets.ISO_8859_1);
        String[] ruledOut = {
            "\\bthrow\\b", "\\btry\\b", "\\bcatch\\b", "\\bsynchronized\\b", "\\bassert\\b", "->", "::",
            "\\bimport\\b(?! java\\.util\\.(ArrayList|List|Arrays|Iterator);)",
            "\\bpackage\\b", "Exact\\b", "\\bSystem\\.(?!arraycopy)", "[^\\x00-\\x7f]", "\\bnew \\w+\\(.*\\)\\s*\\{",
            "\\.(equals|hashCode|toString)\\(", "\\bObject\\b", "\\bfinalize\\b", "\\bprotected\\b", "@"
        };
        for (String pattern : ruledOut) {
            Check.same("ruled out: " + pattern, Pattern.compile(pattern).matcher(source).find(), false);
        }
        int length = 0;
        for (String line : source.split("\n")) {
            boolean begins = line.matches("    (    )?\\S.*\\) \\{");
            length = begins ? 0 : length + 1;
            if (line.matches("    (    )?\\}")) {
                Check.same("a method of " + length + " lines is short", length <= 60, true);
            }
        }
    }
}
