import java.lang.reflect.Constructor;
import java.lang.reflect.Field;
import java.lang.reflect.Method;
import java.lang.reflect.Modifier;
import java.util.ArrayList;
import java.util.List;
import java.util.TreeSet;

/** The public face is the document's, and nothing else of the class can be seen from outside. */
public final class FaceTests {
    private static final Check check = new Check("face");
    private static final String[] FACE = {
        "int feed(int,int,int,int,int)", "int text(int)", "int fault()", "int where()", "int about(int)", "int rule(int)",
        "int batter(int,int)", "int place(int)", "int coming(int)", "int chance(int,int,int)", "int after(int,int,int,int)",
        "long plain(int,int,int,int)", "long any(int,int,int,int)", "long wise(int,int,int,int)", "int choice(int,int,int)",
        "long chosen(int,int,int,int,int)", "int breaksEven(int,int,int)", "long table(int,int,int,int)",
        "long worth(int,int)", "long best(int,int)", "int bestAt(int,int)", "int exchanged(int,int,int)", "int log(int,int)",
        "long added(int,int,int)", "long credit(int,int,int)", "long all(int,int)", "int innings(int,int,boolean,int)",
        "int event(int)", "int play(int,int,boolean)", "int relieve()", "int begin()", "int swap(int,int)", "int lay(int)",
        "int better(int)", "int shift(int,int,int,int)", "int become(int,int)", "int undo()", "int named(int)", "int size()",
        "int trouble()"
    };

    public static void main(String[] args) {
        TreeSet<String> due = new TreeSet<>(List.of(FACE));
        TreeSet<String> seen = new TreeSet<>();
        TreeSet<String> seenNames = new TreeSet<>();
        for (Method m : RunWorth.class.getDeclaredMethods()) {
            if (!Modifier.isPrivate(m.getModifiers()) && !m.isSynthetic()) {
                seen.add(told(m));
                seenNames.add(m.getName());
                check.due(m + " is public", Modifier.isPublic(m.getModifiers()) ? 1 : 0, 1);
            }
        }
        check.due("the methods " + seen, seen.equals(due) ? 1 : 0, 1);
        for (Method m : RunWorth.class.getDeclaredMethods()) {
            if (Modifier.isPrivate(m.getModifiers())) {
                check.due("a private one bears a public name: " + m, seenNames.contains(m.getName()) ? 1 : 0, 0);
            }
        }
        for (Field f : RunWorth.class.getDeclaredFields()) {
            if (!Modifier.isPrivate(f.getModifiers())) {
                check.due("a field that can be seen: " + f, f.getName().equals("NONE") ? 1 : 0, 1);
            }
            if (Modifier.isStatic(f.getModifiers())) {
                check.due("a static field is final: " + f, Modifier.isFinal(f.getModifiers()) ? 1 : 0, 1);
            }
        }
        Constructor<?>[] made = RunWorth.class.getDeclaredConstructors();
        check.due("constructors", made.length, 1);
        check.due("it is public", Modifier.isPublic(made[0].getModifiers()) ? 1 : 0, 1);
        check.due("the class is final", Modifier.isFinal(RunWorth.class.getModifiers()) ? 1 : 0, 1);
        for (Class<?> c : RunWorth.class.getDeclaredClasses()) {
            check.due("a class inside is static: " + c, Modifier.isStatic(c.getModifiers()) ? 1 : 0, 1);
            check.due("a class inside isn't public: " + c, c.getModifiers() & (Modifier.PUBLIC | Modifier.PROTECTED), 0);
        }
        check.end();
    }

    private static String told(Method m) {
        List<String> kinds = new ArrayList<>();
        for (Class<?> c : m.getParameterTypes()) {
            kinds.add(c.getName());
        }
        return m.getReturnType().getName() + " " + m.getName() + "(" + String.join(",", kinds) + ")";
    }
}
