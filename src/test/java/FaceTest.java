import java.lang.reflect.Constructor;
import java.lang.reflect.Field;
import java.lang.reflect.Method;
import java.lang.reflect.Modifier;
import java.util.Set;
import java.util.TreeSet;

/** The class has the document's face, all of it and nothing beside it (LANGUAGE.md, rules 1, 5 and 11). */
public final class FaceTest {
    private static final Check check = new Check("FaceTest");
    private static final String[] FACE = {
        "letter(int)", "kitchen()", "dish(int,int)", "place(int)", "change(int,int)", "heat(int,int)", "begins(int,int)", "set(int,int)",
        "goes(int)", "total(int)", "of(int,int)", "best(int)", "bestAt(int,int)", "bestSet(int)", "roomMore()", "twoPull()", "stairs(int)",
        "forgotten(int)", "halved(int)", "heard(int)", "waits(int)", "send(int)", "row(int)", "fits(int)", "judge()", "lots(int,int)",
        "image()", "on()", "count(int)"};

    public static void main(String[] args) {
        Class<?> face = BoxOnARope.class;
        check.is("the class is public and final", Modifier.isPublic(face.getModifiers()) && Modifier.isFinal(face.getModifiers()));
        Constructor<?>[] made = face.getDeclaredConstructors();
        check.is("one public constructor without arguments",
            made.length == 1 && Modifier.isPublic(made[0].getModifiers()) && made[0].getParameterCount() == 0);
        Set<String> names = methods(face);
        fields(face);
        for (Class<?> inside : face.getDeclaredClasses()) inside(inside, names);
        check.is("some twelve classes at most", face.getDeclaredClasses().length < 12);
        check.end();
    }

    private static Set<String> methods(Class<?> face) {
        Set<String> found = new TreeSet<>();
        Set<String> names = new TreeSet<>();
        for (Method m : face.getDeclaredMethods()) {
            if (Modifier.isPrivate(m.getModifiers()) || m.isSynthetic()) continue;
            check.is(m + " is public, not static, and answers an int", m.getModifiers() == Modifier.PUBLIC && m.getReturnType() == int.class);
            found.add(signature(m));
            names.add(m.getName());
        }
        check.is("methods are " + found, found.equals(new TreeSet<>(Set.of(FACE))));
        for (Method m : face.getDeclaredMethods()) {
            if (Modifier.isPrivate(m.getModifiers())) check.is(m + " bears a public name", !names.contains(m.getName()));
        }
        return names;
    }

    private static String signature(Method m) {
        StringBuilder s = new StringBuilder(m.getName()).append('(');
        for (int i = 0; i < m.getParameterCount(); i++) s.append(i == 0 ? "" : ",").append(m.getParameterTypes()[i]);
        return s.append(')').toString();
    }

    private static void fields(Class<?> c) {
        int own = 0;
        for (Field f : c.getDeclaredFields()) {
            if (f.isSynthetic()) continue;
            if (c == BoxOnARope.class) check.is(f + " is private", Modifier.isPrivate(f.getModifiers()));
            if (Modifier.isStatic(f.getModifiers())) check.is(f + " is final", Modifier.isFinal(f.getModifiers()));
            else own++;
        }
        check.is(c + " has some twenty fields at most", own <= 20);
    }

    private static void inside(Class<?> c, Set<String> names) {
        check.is(c + " is static", Modifier.isStatic(c.getModifiers()));
        check.is(c + " is private or package-visible", !Modifier.isPublic(c.getModifiers()) && !Modifier.isProtected(c.getModifiers()));
        check.is(c + " has no classes inside", c.getDeclaredClasses().length == 0);
        fields(c);
        for (Method m : c.getDeclaredMethods()) {
            check.is(m + " bears a public name", !names.contains(m.getName()));
            check.is(m + " takes seven at most", m.getParameterCount() <= 7);
        }
    }
}
