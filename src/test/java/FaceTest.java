import java.lang.reflect.Member;
import java.lang.reflect.Method;
import java.lang.reflect.Modifier;
import java.util.ArrayList;
import java.util.List;
import java.util.TreeSet;

/** The public face: what the document lists, and no other member that others could use. */
final class FaceTest {
    private static final String[] FACE = {
        "public boolean LabelledTables.write(int,long)",
        "public int LabelledTables.run(int)",
        "public int LabelledTables.begin(int)",
        "public int LabelledTables.commit(int)",
        "public int LabelledTables.abort(int)",
        "public int LabelledTables.checkpoint(int)",
        "public int LabelledTables.cut(int,int)",
        "public void LabelledTables.crash()",
        "public int LabelledTables.label(int)",
        "public boolean LabelledTables.busy(int)",
        "public int LabelledTables.log(int)",
        "public int LabelledTables.rows(int,int)",
        "public int LabelledTables.cell(int,int,int,int)",
        "public int LabelledTables.results(int)",
        "public int LabelledTables.value(int,int,int)",
        "public int LabelledTables.draft(int)",
        "public LabelledTables(int,int,int,int)",
    };

    static void test(Checks checks) {
        Class<?> face = LabelledTables.class;
        TreeSet<String> due = new TreeSet<>(List.of(FACE));
        TreeSet<String> there = new TreeSet<>();
        for (Member member : membersOf(face)) {
            if (!Modifier.isPrivate(member.getModifiers()) && !member.isSynthetic()) {
                there.add(member.toString());
            }
        }
        if (!due.equals(there)) {
            System.out.println("the face is " + there);
        }
        checks.same("whether the face is the document's", 1, due.equals(there) ? 1 : 0);
        checks.same("the class's modifiers", Modifier.PUBLIC | Modifier.FINAL, face.getModifiers());
        checks.same("the class's parent is Object", 1, face.getSuperclass() == Object.class ? 1 : 0);
        for (Class<?> inside : face.getDeclaredClasses()) {
            testInside(checks, inside);
        }
    }

    private static List<Member> membersOf(Class<?> type) {
        List<Member> members = new ArrayList<>(List.of(type.getDeclaredFields()));
        members.addAll(List.of(type.getDeclaredMethods()));
        members.addAll(List.of(type.getDeclaredConstructors()));
        return members;
    }

    /** A class inside is no part of the face, and none of its methods is named like one of it. */
    private static void testInside(Checks checks, Class<?> inside) {
        int modifiers = inside.getModifiers();
        checks.same(inside + " is of no use outside and static", 1,
                !Modifier.isPublic(modifiers) && !Modifier.isProtected(modifiers)
                && Modifier.isStatic(modifiers) ? 1 : 0);
        for (Method method : inside.getDeclaredMethods()) {
            boolean taken = false;
            for (String call : FACE) {
                taken = taken || call.contains("." + method.getName() + "(");
            }
            checks.same(method + " has a name of the face", 0, taken ? 1 : 0);
        }
    }
}
