import java.lang.reflect.Constructor;
import java.lang.reflect.Field;
import java.lang.reflect.Member;
import java.lang.reflect.Method;
import java.lang.reflect.Modifier;
import java.util.ArrayList;
import java.util.Arrays;
import java.util.List;
import java.util.TreeSet;

/** The class shows the document's face and nothing else, as rule 1 of LANGUAGE.md asks. */
public final class FaceTest {
    private static final String[] FACE = {
        "public OrderDesk()",
        "public boolean OrderDesk.isBelow(int,int)",
        "public int OrderDesk.apart()",
        "public int OrderDesk.begin(int)",
        "public int OrderDesk.chain(int)",
        "public int OrderDesk.count(int)",
        "public int OrderDesk.covers(int)",
        "public int OrderDesk.cut(int)",
        "public int OrderDesk.free(int)",
        "public int OrderDesk.joined(int,int,boolean)",
        "public int OrderDesk.least(int)",
        "public int OrderDesk.mu(int,int)",
        "public int OrderDesk.muOfCuts(int,int)",
        "public int OrderDesk.next(int)",
        "public int OrderDesk.put(int,int)",
        "public long OrderDesk.before(int,int)",
        "public long OrderDesk.places(int,int)",
        "public long OrderDesk.rank(long)",
        "public long OrderDesk.row(long)",
        "public long OrderDesk.rows()",
        "public static final int OrderDesk.NONE",
    };

    private FaceTest() {
    }

    public static void main(String[] args) {
        TreeSet<String> shown = new TreeSet<>();
        List<String> hidden = new ArrayList<>();
        TreeSet<String> names = new TreeSet<>();
        List<Member> members = new ArrayList<>();
        members.addAll(Arrays.asList((Member[]) OrderDesk.class.getDeclaredConstructors()));
        members.addAll(Arrays.asList((Member[]) OrderDesk.class.getDeclaredMethods()));
        members.addAll(Arrays.asList((Member[]) OrderDesk.class.getDeclaredFields()));
        for (Member member : members) {
            if (!Modifier.isPrivate(member.getModifiers())) {
                shown.add(member.toString());
                names.add(member.getName());
            } else if (member instanceof Method) {
                hidden.add(member.getName());
            }
        }
        for (String due : FACE) {
            Check.due("face has " + due, shown.remove(due), true);
        }
        for (String more : shown) {
            Check.due("face has more: " + more, true, false);
        }
        for (String name : hidden) {
            Check.due("a private method is named " + name, names.contains(name), false);
        }
        Check.due("the class is public and final", OrderDesk.class.getModifiers(), Modifier.PUBLIC | Modifier.FINAL);
        Check.due("face stands on Object", OrderDesk.class.getSuperclass() == Object.class, true);
        checkInside(names);
        Check.finish();
    }

    private static void checkInside(TreeSet<String> names) {
        for (Class<?> inside : OrderDesk.class.getDeclaredClasses()) {
            int modifiers = inside.getModifiers();
            Check.due(inside + " is static", Modifier.isStatic(modifiers), true);
            Check.due(inside + " is shown", Modifier.isPublic(modifiers) || Modifier.isProtected(modifiers), false);
            for (Method method : inside.getDeclaredMethods()) {
                Check.due(method + " is named as one of the face", names.contains(method.getName()), false);
            }
            for (Field field : inside.getDeclaredFields()) {
                Check.due(field + " is static", Modifier.isStatic(field.getModifiers()), false);
            }
            for (Constructor<?> constructor : inside.getDeclaredConstructors()) {
                Check.due(constructor + " is public", Modifier.isPublic(constructor.getModifiers()), false);
            }
        }
    }
}
