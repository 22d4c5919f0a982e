import java.lang.reflect.Constructor;
import java.lang.reflect.Field;
import java.lang.reflect.Method;
import java.lang.reflect.Modifier;
import java.util.Arrays;
import java.util.Set;
import java.util.TreeSet;

/** The class has the document's face and nothing else that can be seen from outside. */
public final class FaceTest {
    private static final String FACE = "key(long)int scheme()int fault(boolean)int say(int)int send(int,int)int "
        + "turn(int)boolean lose(int,int)int put(int,boolean)int hear(int)int undo()int count(int)int role(int)int "
        + "bit(int)int checks(int)int receiver(int)int candidate(int)int frame(int)int signal(int)int value(int)int "
        + "ahead(int,int,int)int struck(int,int)int locks(int)int from(int,int)int fits(int,int)int least(int)int "
        + "weak()int image(int)boolean again(int)boolean";

    private FaceTest() {
    }

    public static void main(String[] args) {
        Class<TrunkFramer> face = TrunkFramer.class;
        Set<String> seen = new TreeSet<>();
        Set<String> hidden = new TreeSet<>();
        for (Method m : face.getDeclaredMethods()) {
            if (Modifier.isPrivate(m.getModifiers()) || m.isSynthetic()) {
                hidden.add(m.getName());
                continue;
            }
            StringBuilder s = new StringBuilder(m.getName()).append('(');
            for (Class<?> p : m.getParameterTypes()) {
                s.append(s.charAt(s.length() - 1) == '(' ? "" : ",").append(p.getName());
            }
            seen.add(s.append(')').append(m.getReturnType().getName()).toString());
            Check.due(m + " is public", Modifier.isPublic(m.getModifiers()), true);
        }
        Set<String> due = new TreeSet<>(Arrays.asList(FACE.split(" ")));
        Check.due("the methods " + seen, seen.equals(due), true);
        fields(face);
        Constructor<?>[] made = face.getDeclaredConstructors();
        Check.due("one constructor", made.length == 1 && Modifier.isPublic(made[0].getModifiers()), true);
        Check.due("final", Modifier.isFinal(face.getModifiers()), true);
        Class<?>[] inner = face.getDeclaredClasses();
        Check.due("some twelve classes", inner.length <= 12, true);
        for (Class<?> c : inner) {
            for (Method m : c.getDeclaredMethods()) {
                hidden.add(m.getName());
            }
            Check.due(c + " is private", Modifier.isPrivate(c.getModifiers()), true);
        }
        for (String m : due) {
            String name = m.substring(0, m.indexOf('('));
            Check.due(name + " is no hidden method's name, too", hidden.contains(name), false);
        }
        Check.end("FaceTest");
    }

    private static void fields(Class<?> face) {
        for (Field f : face.getDeclaredFields()) {
            boolean isNone = f.getName().equals("NONE");
            Check.due(f + " is private", Modifier.isPrivate(f.getModifiers()), !isNone);
            if (Modifier.isStatic(f.getModifiers())) {
                Check.due(f + " is final", Modifier.isFinal(f.getModifiers()), true);
            }
        }
    }
}
