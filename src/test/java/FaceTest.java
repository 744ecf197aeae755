import java.lang.reflect.Constructor;
import java.lang.reflect.Field;
import java.lang.reflect.Member;
import java.lang.reflect.Method;
import java.lang.reflect.Modifier;
import java.util.Set;
import java.util.TreeSet;

/** The public face is the document's, and nothing else of the class can be seen. */
public final class FaceTest {
    private static final Set<String> FACE = Set.of(
            "int type(long,int)", "int fill(int,int)", "int room(int)", "int make(int)", "int link()",
            "int symlink()", "int remove()", "int removeFolder()", "int rename()", "int find(boolean)",
            "int hold()", "int release(int)", "int about(int,int)", "int targetByte(int,int)", "int count(int)");

    public static void main(String[] args) {
        Check check = new Check("face");
        Set<String> seen = new TreeSet<>();
        Set<String> hidden = new TreeSet<>();
        for (Method method : NameTree.class.getDeclaredMethods()) {
            if (Modifier.isPrivate(method.getModifiers())) {
                hidden.add(method.getName());
            } else {
                String name = method.toString().replaceFirst("^public ", "").replace("NameTree.", "");
                seen.add(name);
            }
        }
        check.due("methods of the face " + seen, seen.equals(FACE) ? 1 : 0, 1);
        for (Method method : NameTree.class.getDeclaredMethods()) {
            boolean shared = !Modifier.isPrivate(method.getModifiers()) && hidden.contains(method.getName());
            check.due("a private method has the name " + method.getName(), shared ? 1 : 0, 0);
        }
        for (Field field : NameTree.class.getDeclaredFields()) {
            check.due("private field " + field.getName(), isPrivate(field), 1);
        }
        Constructor<?>[] constructors = NameTree.class.getDeclaredConstructors();
        check.due("constructors", constructors.length, 1);
        check.due("public constructor", Modifier.isPublic(constructors[0].getModifiers()) ? 1 : 0, 1);
        check.due("final class", Modifier.isFinal(NameTree.class.getModifiers()) ? 1 : 0, 1);
        Check.end();
    }

    private static int isPrivate(Member member) {
        return Modifier.isPrivate(member.getModifiers()) ? 1 : 0;
    }
}
