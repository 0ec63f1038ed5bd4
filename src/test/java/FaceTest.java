import java.lang.reflect.Constructor;
import java.lang.reflect.Field;
import java.lang.reflect.Method;
import java.lang.reflect.Modifier;
import java.util.Set;
import java.util.TreeSet;

/** The public face: just the members that the document lists, with just their signatures. */
public final class FaceTest {
    private static final String[] FACE = {
        "public static final int MeterSeals.NONE",
        "public static final int MeterSeals.FULL",
        "public MeterSeals()",
        "public int MeterSeals.meter(long)",
        "public boolean MeterSeals.pulses(int,long,long,int)",
        "public boolean MeterSeals.row(int,int,long,long)",
        "public long MeterSeals.litres(int,int,int) throws java.lang.ArrayIndexOutOfBoundsException",
        "public int MeterSeals.rows(int)",
        "public int MeterSeals.check(int,int)",
        "public boolean MeterSeals.poke(int,int,long)",
        "public boolean MeterSeals.seal(int,int,boolean)",
        "public boolean MeterSeals.marked(int,int)",
        "public int MeterSeals.gap(int,int,int)",
        "public long MeterSeals.rest(int,long)",
        "public boolean MeterSeals.reset(int,long)",
        "public int MeterSeals.roll(int,int)",
    };

    public static void main(String[] args) {
        Set<String> visible = new TreeSet<>();
        for (Field field : MeterSeals.class.getDeclaredFields()) {
            keepVisible(visible, field.getModifiers(), field.toString());
        }
        for (Constructor<?> constructor : MeterSeals.class.getDeclaredConstructors()) {
            keepVisible(visible, constructor.getModifiers(), constructor.toString());
        }
        for (Method method : MeterSeals.class.getDeclaredMethods()) {
            keepVisible(visible, method.getModifiers(), method.toString());
        }
        Due.same("the visible members", visible, new TreeSet<>(Set.of(FACE)));
        Due.is("public", Modifier.isPublic(MeterSeals.class.getModifiers()));
        Due.is("final", Modifier.isFinal(MeterSeals.class.getModifiers()));
        for (Class<?> inside : MeterSeals.class.getDeclaredClasses()) {
            Due.is(inside + " is static", Modifier.isStatic(inside.getModifiers()));
            Due.not(inside + " is public", Modifier.isPublic(inside.getModifiers()));
            Due.not(inside + " is protected", Modifier.isProtected(inside.getModifiers()));
        }
        Due.number("NONE", MeterSeals.NONE, -1);
        Due.number("FULL", MeterSeals.FULL, -2);
        Due.end("FaceTest");
    }

    private static void keepVisible(Set<String> visible, int modifiers, String text) {
        if (!Modifier.isPrivate(modifiers)) {
            visible.add(text);
        }
    }
}
