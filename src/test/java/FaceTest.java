import java.lang.reflect.Constructor;
import java.lang.reflect.Field;
import java.lang.reflect.Method;
import java.lang.reflect.Modifier;
import java.util.HashSet;
import java.util.Set;
import java.util.TreeSet;

/** The public face is that of the document, and nothing else can be seen from outside. */
public final class FaceTest {
    private static final String[] FACE = {
        "int feed(long,long,long)", "int table()", "int deal()", "int book()", "int kind(int,int)",
        "int card(int,int)", "int heap(int)", "int taken(int,int)", "int turn(int)", "boolean slip(int)",
        "boolean undo()", "boolean again()", "int ends(int)", "int all(int)", "int row(int,int)",
        "int beginner(int)", "int worth(int,int)", "int leads(int,int)", "int laws(int,int,int)",
        "int unseen(int)", "int odds(int)", "int offer()", "int bet(int,int)", "int take(int)",
        "int choice(int,int)", "int both(int)", "int opening(int)", "int comes(int)", "int orders()",
        "boolean clear()", "boolean drawn(int)", "int games(int,int,int)", "int looked(int,int,int)",
        "boolean mark(int,boolean)", "int count(int)"};

    public static void main(String[] args) {
        Set<String> want = new TreeSet<>(Set.of(FACE));
        Set<String> names = new HashSet<>();
        for (String line : FACE) {
            names.add(line.substring(line.indexOf(' ') + 1, line.indexOf('(')));
        }
        Checks.due("public final", true, Modifier.isPublic(BeggarHeaps.class.getModifiers())
            && Modifier.isFinal(BeggarHeaps.class.getModifiers()));
        Set<String> got = new TreeSet<>();
        for (Method m : BeggarHeaps.class.getDeclaredMethods()) {
            if (Modifier.isPublic(m.getModifiers())) {
                got.add(told(m));
            } else if (!m.isSynthetic()) {
                Checks.due("private: " + m, true, Modifier.isPrivate(m.getModifiers()));
                Checks.due("a private method has no public name: " + m, false, names.contains(m.getName()));
            }
        }
        Checks.dueText("the face", want.toString(), got.toString());
        for (Field f : BeggarHeaps.class.getDeclaredFields()) {
            boolean none = f.getName().equals("NONE");
            Checks.due("field " + f, none, !Modifier.isPrivate(f.getModifiers()));
            Checks.due("static is final: " + f, true, !Modifier.isStatic(f.getModifiers()) || Modifier.isFinal(f.getModifiers()));
        }
        Constructor<?>[] made = BeggarHeaps.class.getDeclaredConstructors();
        Checks.due("one constructor", 1, made.length);
        Checks.due("without arguments", 0, made[0].getParameterCount());
        inside(names);
        Checks.finish("FaceTest");
    }

    private static String told(Method m) {
        StringBuilder b = new StringBuilder(m.getReturnType().getName()).append(' ').append(m.getName()).append('(');
        for (Class<?> type : m.getParameterTypes()) {
            b.append(b.charAt(b.length() - 1) == '(' ? "" : ",").append(type.getName());
        }
        return b.append(')').toString();
    }

    private static void inside(Set<String> names) {
        Class<?>[] classes = BeggarHeaps.class.getDeclaredClasses();
        Checks.due("some twelve classes", true, classes.length < 12);
        for (Class<?> c : classes) {
            Checks.due("private static: " + c, true, Modifier.isPrivate(c.getModifiers()) && Modifier.isStatic(c.getModifiers()));
            int fields = 0;
            for (Field f : c.getDeclaredFields()) {
                fields += Modifier.isStatic(f.getModifiers()) ? 0 : 1;
                Checks.due("static is final: " + f, true, !Modifier.isStatic(f.getModifiers()) || Modifier.isFinal(f.getModifiers()));
            }
            Checks.due("some twenty fields: " + c, true, fields <= 20);
            for (Method m : c.getDeclaredMethods()) {
                Checks.due("seven parameters: " + m, true, m.getParameterCount() <= 7);
                Checks.due("no public name: " + m, false, names.contains(m.getName()));
            }
        }
    }
}
