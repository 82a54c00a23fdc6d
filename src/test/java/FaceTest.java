import java.lang.reflect.Constructor;
import java.lang.reflect.Field;
import java.lang.reflect.Method;
import java.lang.reflect.Modifier;
import java.util.Arrays;
import java.util.TreeSet;

/** The public face is the document's, and nothing else of the class can be seen from outside (LANGUAGE.md, rules 1 and 5). */
public final class FaceTest {
    private static final String[] FACE = {
        "public boolean SnoopBus.choose(int)",
        "public int SnoopBus.protocol()",
        "public int SnoopBus.read(int,int) throws java.lang.IllegalArgumentException",
        "public int SnoopBus.write(int,int,int) throws java.lang.IllegalArgumentException",
        "public boolean SnoopBus.evict(int,int) throws java.lang.IllegalArgumentException,java.lang.IllegalStateException",
        "public int SnoopBus.flush()",
        "public int SnoopBus.state(int,int)",
        "public int SnoopBus.cached(int,int)",
        "public int SnoopBus.memory(int)",
        "public int SnoopBus.count(int)",
        "public int SnoopBus.hits()",
        "public int SnoopBus.misses()",
        "public int SnoopBus.latest(int)",
    };

    public static void main(String[] args) {
        Due due = new Due();
        due.same("the class", Modifier.toString(SnoopBus.class.getModifiers()), "public final");
        constructors(due);
        methods(due);
        fields(due);
        due.end();
    }

    private static void constructors(Due due) {
        Constructor<?>[] all = SnoopBus.class.getDeclaredConstructors();
        due.same("constructors", all.length, 1);
        due.same("the constructor", all[0].toGenericString(), "public SnoopBus()");
    }

    private static void methods(Due due) {
        TreeSet<String> visible = new TreeSet<>();
        TreeSet<String> visibleNames = new TreeSet<>();
        for (Method method : SnoopBus.class.getDeclaredMethods()) {
            if (!Modifier.isPrivate(method.getModifiers())) {
                visible.add(method.toString());
                visibleNames.add(method.getName());
            }
        }
        due.same("visible methods", visible, new TreeSet<>(Arrays.asList(FACE)));
        for (Method method : SnoopBus.class.getDeclaredMethods()) {
            if (Modifier.isPrivate(method.getModifiers())) {
                due.same(method + " has a public name", visibleNames.contains(method.getName()), false);
            }
        }
    }

    private static void fields(Due due) {
        for (Field field : SnoopBus.class.getDeclaredFields()) {
            int modifiers = field.getModifiers();
            due.same(field + " is private", Modifier.isPrivate(modifiers), true);
            due.same(field + " is no changing static", !Modifier.isStatic(modifiers) || Modifier.isFinal(modifiers), true);
        }
    }
}
