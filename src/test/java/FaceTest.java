import java.lang.reflect.Method;
import java.lang.reflect.Modifier;
import java.util.Arrays;
import java.util.List;
import java.util.TreeSet;

/** The public face, and that no method inside bears the name of one of it. */
public final class FaceTest {
    private static final List<String> FACE = List.of(
        "boolean feed(int,int,int,int,int)", "boolean end(int)", "int octet(int)", "int describe()",
        "int fault(int)", "int use()", "void empty()", "int ability()", "int expand(int,int,int,int)",
        "int open(int,int,int,int)", "boolean close(int)", "boolean at(int,int,int)",
        "boolean dress(int,int)", "boolean scrolls(int,boolean)", "int say(int)",
        "boolean erase(int,int)", "boolean rows(int,int)", "boolean cells(int,int)",
        "boolean roll(int,int)", "boolean box(int)", "int look(int,int,int)", "int where(int,int)",
        "int show(int)", "int update()", "boolean redraw()", "int known(int,int)",
        "int wanted(int,int)", "int flags(int)", "int write()", "int read(int)",
        "boolean key(int,boolean)", "boolean spoil(int)", "int ticks(int)", "int screen(int,int)",
        "int width(int)", "int state(int)", "int count(int)", "int stop(int,int)");

    public static void main(String[] args) {
        TreeSet<String> found = new TreeSet<>();
        TreeSet<String> names = new TreeSet<>();
        for (Method m : TerminalHouse.class.getDeclaredMethods()) {
            if (!Modifier.isPrivate(m.getModifiers())) {
                StringBuilder all = new StringBuilder(m.getReturnType() + " " + m.getName() + "(");
                for (Class<?> c : m.getParameterTypes()) {
                    all.append(all.charAt(all.length() - 1) == '(' ? "" : ",").append(c);
                }
                found.add(all + ")");
                names.add(m.getName());
                Check.due(m.getName() + " is public and no static", m.getModifiers(), Modifier.PUBLIC);
            }
        }
        Check.due("face", found.toString(), new TreeSet<>(FACE).toString());
        int others = 0;
        for (Method m : TerminalHouse.class.getDeclaredMethods()) {
            others += Modifier.isPrivate(m.getModifiers()) && names.contains(m.getName()) ? 1 : 0;
        }
        for (Class<?> c : TerminalHouse.class.getDeclaredClasses()) {
            Check.due(c + " is static", Modifier.isStatic(c.getModifiers()), true);
            for (Method m : c.getDeclaredMethods()) {
                others += names.contains(m.getName()) ? 1 : 0;
            }
        }
        Check.due("methods inside with a name of the face", others, 0);
        Check.due("fields that are not private",
            Arrays.stream(TerminalHouse.class.getDeclaredFields())
                .filter(f -> !Modifier.isPrivate(f.getModifiers())).count(), 1);
        Check.due("constructors", TerminalHouse.class.getDeclaredConstructors().length, 1);
        Check.due("final", Modifier.isFinal(TerminalHouse.class.getModifiers()), true);
        Check.due("NONE", TerminalHouse.NONE, -1);
        Check.finish("FaceTest");
    }
}
