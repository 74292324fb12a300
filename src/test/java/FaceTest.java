import java.lang.reflect.Constructor;
import java.lang.reflect.Field;
import java.lang.reflect.Method;
import java.lang.reflect.Modifier;
import java.util.TreeSet;

/** The public face is the document's, and nothing beside it can be seen from outside. */
public final class FaceTest {
    private static final String[] FACE = {
        "public ExactEstimates()",
        "public final class ExactEstimates",
        "public int ExactEstimates.advance()",
        "public int ExactEstimates.bits(int,int,int,boolean)",
        "public int ExactEstimates.compare(int,int,int,int,int)",
        "public int ExactEstimates.initial(int,int,int,int,int)",
        "public int ExactEstimates.noise(int,int,int)",
        "public int ExactEstimates.observations()",
        "public int ExactEstimates.observe(int,int,int,int)",
        "public int ExactEstimates.sign(int,int,int)",
        "public int ExactEstimates.time()",
        "public boolean ExactEstimates.step(int,int,int,int)",
        "public long ExactEstimates.word(int,int,int,boolean,int)",
        "public static final int ExactEstimates.NONE",
        "public static final int ExactEstimates.BAD",
        "public static final int ExactEstimates.FLAT",
        "public static final int ExactEstimates.FULL",
    };

    public static void main(String[] args) {
        Checks checks = new Checks();
        TreeSet<String> want = new TreeSet<>();
        for (String line : FACE) {
            want.add(line);
        }
        checks.due("the face", face().toString(), want.toString());
        checks.due("NONE", ExactEstimates.NONE, -2);
        checks.due("BAD", ExactEstimates.BAD, -3);
        checks.due("FLAT", ExactEstimates.FLAT, -4);
        checks.due("FULL", ExactEstimates.FULL, -5);
        for (Class<?> inside : ExactEstimates.class.getDeclaredClasses()) {
            boolean hidden = !Modifier.isPublic(inside.getModifiers()) && !Modifier.isProtected(inside.getModifiers());
            checks.due(inside + " is hidden and static", hidden && Modifier.isStatic(inside.getModifiers()) ? 1 : 0, 1);
        }
        checks.end();
    }

    private static TreeSet<String> face() {
        TreeSet<String> face = new TreeSet<>();
        Class<?> own = ExactEstimates.class;
        face.add(Modifier.toString(own.getModifiers()) + " " + own);
        for (Constructor<?> c : own.getDeclaredConstructors()) {
            if (!Modifier.isPrivate(c.getModifiers())) {
                face.add(c.toString());
            }
        }
        for (Method m : own.getDeclaredMethods()) {
            if (!Modifier.isPrivate(m.getModifiers()) && !m.isSynthetic()) {
                face.add(m.toString());
            }
        }
        for (Field f : own.getDeclaredFields()) {
            if (!Modifier.isPrivate(f.getModifiers()) && !f.isSynthetic()) {
                face.add(f.toString());
            }
        }
        return face;
    }
}
