import java.lang.reflect.Constructor;
import java.lang.reflect.Field;
import java.lang.reflect.Member;
import java.lang.reflect.Method;
import java.lang.reflect.Modifier;
import java.util.ArrayList;
import java.util.List;
import java.util.Set;
import java.util.TreeSet;

/** The class has the document's face, and beside it nothing that is not private. */
public final class FaceTest {
    private static final Check CHECK = new Check();

    private static final Set<String> FACE = Set.of(
            "public SignTeller(int)",
            "public int SignTeller.example(int)",
            "public void SignTeller.feature(int,int,int) throws java.lang.ArrayIndexOutOfBoundsException",
            "public int SignTeller.make(int) throws java.lang.ArithmeticException",
            "public void SignTeller.sign(int,int) throws java.lang.ArrayIndexOutOfBoundsException",
            "public int SignTeller.tell(int)",
            "public long SignTeller.distance(int)",
            "public double SignTeller.weight(int,int) throws java.lang.ArrayIndexOutOfBoundsException",
            "public int SignTeller.confused(int,int)",
            "public int SignTeller.margin(int)",
            "public int SignTeller.clear()",
            "public static final int SignTeller.NONE",
            "public static final int SignTeller.REJECTED",
            "public static final int SignTeller.BLANK",
            "public static final int SignTeller.OUTSIDE",
            "public static final int SignTeller.STATE",
            "public static final int SignTeller.ROOM");

    public static void main(String[] args) {
        Class<?> face = SignTeller.class;
        CHECK.sameText("the class", Modifier.toString(face.getModifiers()), "public final");
        CHECK.sameText("its package", face.getPackageName(), "");
        CHECK.sameText("the face", openMembers(face).toString(), new TreeSet<>(FACE).toString());
        for (Method m : face.getDeclaredMethods()) {
            boolean hides = Modifier.isPrivate(m.getModifiers()) && isPublicName(face, m.getName());
            CHECK.same("private method with a public name: " + m.getName(), hides ? 1 : 0, 0);
        }
        for (Field f : face.getDeclaredFields()) {
            int modifiers = f.getModifiers();
            boolean loose = Modifier.isStatic(modifiers) && !Modifier.isFinal(modifiers);
            CHECK.same("static field that is not final: " + f.getName(), loose ? 1 : 0, 0);
        }
        CHECK.end();
    }

    private static Set<String> openMembers(Class<?> face) {
        List<Member> members = new ArrayList<>(List.of(face.getDeclaredMethods()));
        members.addAll(List.<Constructor<?>>of(face.getDeclaredConstructors()));
        members.addAll(List.of(face.getDeclaredFields()));
        Set<String> open = new TreeSet<>();
        for (Member m : members) {
            if (!Modifier.isPrivate(m.getModifiers())) {
                open.add(textOf(m));
            }
        }
        return open;
    }

    private static String textOf(Member m) {
        if (m instanceof Method method) {
            return method.toGenericString();
        }
        if (m instanceof Constructor<?> constructor) {
            return constructor.toGenericString();
        }
        return ((Field) m).toGenericString();
    }

    private static boolean isPublicName(Class<?> face, String name) {
        for (Method m : face.getDeclaredMethods()) {
            if (Modifier.isPublic(m.getModifiers()) && m.getName().equals(name)) {
                return true;
            }
        }
        return false;
    }
}
