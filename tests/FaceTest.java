import java.lang.reflect.Constructor;
import java.lang.reflect.Field;
import java.lang.reflect.Method;
import java.lang.reflect.Modifier;
import java.util.Arrays;
import java.util.Set;
import java.util.TreeSet;

/** The public face, and nothing besides it. */
public final class FaceTest {
    private static final String[] FACE = {
        "feed(long)", "end(int)", "text()", "fault()", "thing(int)", "meaning(int,int)", "word(int)", "kind(int,int)",
        "show(int,int,boolean)", "teach(int,int)", "undo()", "clear()", "shown(int,int)", "thinks(int,int)", "fits(int,int)",
        "same(int,int)", "fled(int)", "against(int,int)", "common(int)", "teaching(int,int,int)", "never(int,int)", "order(int,int)",
        "first(int,int)", "fears(int)", "answer(int,int,int)", "heard(int,int,int)", "left(int)", "ask(int)", "sure(int,int)",
        "likely(int,int)", "theirs(int,boolean)", "hush()", "meant(int)", "build(int,int)", "draw(int)", "keep(int)", "back(int)",
        "sheet(int,int,int)", "lay(int,int,int)", "read(int,int,int,int)", "torn()", "count(int)"};

    public static void main(String[] args) {
        Class<?> face = FirstWords.class;
        Check.holds("public and final", Modifier.isPublic(face.getModifiers()) && Modifier.isFinal(face.getModifiers()));
        methods(face);
        constants(face);
        Constructor<?>[] made = face.getDeclaredConstructors();
        Check.holds("one public constructor of nothing", made.length == 1 && made[0].getParameterCount() == 0
            && Modifier.isPublic(made[0].getModifiers()));
        Class<?>[] inside = face.getDeclaredClasses();
        Check.holds("some twelve classes at most", inside.length <= 12);
        for (Class<?> c : inside) {
            int m = c.getModifiers();
            Check.holds(c + " is static, and not public or protected", Modifier.isStatic(m) && !Modifier.isPublic(m) && !Modifier.isProtected(m));
        }
        Check.finish();
    }

    private static void methods(Class<?> face) {
        Set<String> wanted = new TreeSet<>(Arrays.asList(FACE));
        Set<String> names = new TreeSet<>();
        for (String f : FACE) names.add(f.substring(0, f.indexOf('(')));
        for (Method m : face.getDeclaredMethods()) {
            if (Modifier.isPrivate(m.getModifiers()) || m.isSynthetic()) {
                Check.holds("no private method has the name " + m.getName(), !names.contains(m.getName()));
                continue;
            }
            StringBuilder b = new StringBuilder(m.getName()).append('(');
            for (Class<?> p : m.getParameterTypes()) b.append(b.charAt(b.length() - 1) == '(' ? "" : ",").append(p.getName());
            Check.holds("of the face: " + b + ")", wanted.remove(b + ")"));
            Check.holds(m + " is public, answers an int, is no static one", Modifier.isPublic(m.getModifiers())
                && m.getReturnType() == int.class && !Modifier.isStatic(m.getModifiers()));
        }
        Check.holds("all of the face is there, but " + wanted, wanted.isEmpty());
    }

    private static void constants(Class<?> face) {
        Set<String> wanted = new TreeSet<>(Arrays.asList("BAD", "STATE", "FULL", "NONE"));
        for (Field f : face.getDeclaredFields()) {
            if (Modifier.isPrivate(f.getModifiers())) continue;
            int m = f.getModifiers();
            Check.holds("of the face: " + f, wanted.remove(f.getName()) && Modifier.isPublic(m) && Modifier.isStatic(m)
                && Modifier.isFinal(m) && f.getType() == int.class);
        }
        Check.holds("all constants, but " + wanted, wanted.isEmpty());
    }
}
