import java.lang.reflect.Constructor;
import java.lang.reflect.Field;
import java.lang.reflect.Method;
import java.lang.reflect.Modifier;
import java.util.ArrayList;
import java.util.Arrays;
import java.util.List;
import java.util.TreeSet;

/** The public face as the document has it. */
public final class FaceTest {
    private static final String[] FACE = {
        "int state(int)", "int traveller(int, int, int)", "int officer(int, int, int)", "boolean set(int, int, int)",
        "boolean act(int, int, int)", "int weigh(int, int)", "int hours(int)", "int feed(int, int, int, int, int)",
        "boolean end(int)", "int text(int)", "int fault(int)", "int of(int, int)", "int who(int, int)",
        "int book(int, int)", "int goes(int, int)", "int rate(int)", "int order(int, int, int)", "int ordered(int)",
        "int hand(int, int)", "int hands(int)", "int weight(int)", "int crates(int, int)", "int bag(int)",
        "int weighed(int, int)", "int suspects(int)", "int driest(int, int, int, int)", "boolean count(int, int, int)",
        "int likely(int, int)", "int salt(int)", "int won(int)", "boolean ledger(int, int)", "int altered(int)",
        "boolean years(int, int)", "int dry(int)", "int votes(int, int)", "int game(int)", "boolean undo()",
        "boolean image(boolean)", "int look(int)"
    };

    public static void main(String[] args) {
        face();
        Check.finish();
    }

    private static void face() {
        TreeSet<String> got = new TreeSet<>();
        for (Method m : TearCustoms.class.getDeclaredMethods()) {
            if (Modifier.isPublic(m.getModifiers()) && !Modifier.isStatic(m.getModifiers())) {
                List<String> types = new ArrayList<>();
                for (Class<?> type : m.getParameterTypes()) {
                    types.add(type.getName());
                }
                got.add(m.getReturnType().getName() + " " + m.getName() + "(" + String.join(", ", types) + ")");
            } else {
                Check.same(m + " is private", Modifier.isPrivate(m.getModifiers()), true);
            }
        }
        TreeSet<String> due = new TreeSet<>(Arrays.asList(FACE));
        Check.same("the face " + got, got.equals(due), true);
        for (Field f : TearCustoms.class.getDeclaredFields()) {
            boolean none = f.getName().equals("NONE");
            Check.same(f + " is private", Modifier.isPrivate(f.getModifiers()), !none);
            Check.same(f + " is public", Modifier.isPublic(f.getModifiers()), none);
        }
        Constructor<?>[] made = TearCustoms.class.getDeclaredConstructors();
        Check.same("constructors", made.length, 1);
        Check.same("parameters of the constructor", made[0].getParameterCount(), 0);
        Check.same("the constructor is public", Modifier.isPublic(made[0].getModifiers()), true);
        Check.same("the class is public and final", TearCustoms.class.getModifiers(), Modifier.PUBLIC | Modifier.FINAL);
        Check.same("NONE", TearCustoms.NONE, -1);
    }
}
