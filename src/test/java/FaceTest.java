import java.lang.reflect.Constructor;
import java.lang.reflect.Field;
import java.lang.reflect.Member;
import java.lang.reflect.Method;
import java.lang.reflect.Modifier;
import java.util.ArrayList;
import java.util.Arrays;
import java.util.HashSet;
import java.util.List;
import java.util.Set;
import java.util.TreeSet;

/** The class has the document's face, and nothing else that can be seen (LANGUAGE.md, rules 1 and 5). */
public final class FaceTest {
    private static final String[] FACE = {
        "public ChangeSync(int,int)",
        "public boolean ChangeSync.lose(int)",
        "public boolean ChangeSync.up(int,boolean)",
        "public int ChangeSync.deliver(int) throws java.lang.IndexOutOfBoundsException",
        "public int ChangeSync.inside(int,int)",
        "public int ChangeSync.lacks(int) throws java.lang.IndexOutOfBoundsException",
        "public int ChangeSync.log(int,int)",
        "public int ChangeSync.look(int)",
        "public int ChangeSync.make(int,int) throws java.lang.IndexOutOfBoundsException,"
                + "java.lang.IllegalArgumentException,java.lang.IllegalStateException",
        "public int ChangeSync.message(int,int) throws java.lang.IndexOutOfBoundsException",
        "public int ChangeSync.tick(int) throws java.lang.IndexOutOfBoundsException,"
                + "java.lang.IllegalStateException",
        "public int ChangeSync.twice(int) throws java.lang.IndexOutOfBoundsException",
        "public int ChangeSync.weight(int,int)",
        "public long ChangeSync.clock(int) throws java.lang.IndexOutOfBoundsException",
        "public long ChangeSync.told(int)",
        "public static final int ChangeSync.NONE",
    };

    public static void main(String[] args) {
        Checks checks = new Checks();
        Class<?> type = ChangeSync.class;
        checks.due("the class", Modifier.toString(type.getModifiers()), "public final");
        checks.due("NONE", ChangeSync.NONE, -1);
        checks.due("the face", String.join("\n  ", seen(type)),
                String.join("\n  ", new TreeSet<>(Arrays.asList(FACE))));
        checks.due("private methods with a public name", privateWithPublicName(type), 0);
        for (Field field : type.getDeclaredFields()) {
            if (Modifier.isStatic(field.getModifiers())) {
                checks.due(field + " is final", Modifier.isFinal(field.getModifiers()), true);
            }
        }
        checks.end();
    }

    private static Set<String> seen(Class<?> type) {
        List<Member> members = new ArrayList<>();
        members.addAll(Arrays.asList(type.getDeclaredConstructors()));
        members.addAll(Arrays.asList(type.getDeclaredMethods()));
        members.addAll(Arrays.asList(type.getDeclaredFields()));
        Set<String> seen = new TreeSet<>();
        for (Member member : members) {
            if (!Modifier.isPrivate(member.getModifiers())) {
                seen.add(describe(member));
            }
        }
        return seen;
    }

    private static String describe(Member member) {
        if (member instanceof Constructor) {
            return ((Constructor<?>) member).toGenericString();
        }
        return member instanceof Method ? ((Method) member).toGenericString() : member.toString();
    }

    private static int privateWithPublicName(Class<?> type) {
        Set<String> open = new HashSet<>();
        for (Method method : type.getDeclaredMethods()) {
            if (Modifier.isPublic(method.getModifiers())) {
                open.add(method.getName());
            }
        }
        int count = 0;
        for (Method method : type.getDeclaredMethods()) {
            if (!Modifier.isPublic(method.getModifiers()) && open.contains(method.getName())) {
                count++;
            }
        }
        return count;
    }
}
