import java.lang.reflect.Constructor;
import java.lang.reflect.Field;
import java.lang.reflect.Method;
import java.lang.reflect.Modifier;
import java.util.Set;
import java.util.TreeSet;

/** The public face, and what of ../shared/LANGUAGE.md can be seen in the compiled classes (rules 1, 5 and 11). */
public final class FaceTest {
    private static final Check CHECK = new Check();

    public static void main(String[] args) {
        face();
        language(MarkupJudge.class);
        Class<?>[] inside = MarkupJudge.class.getDeclaredClasses();
        CHECK.same("at most eleven classes inside", inside.length <= 11, true);
        for (Class<?> one : inside) {
            CHECK.same(one + " is static", Modifier.isStatic(one.getModifiers()), true);
            CHECK.same(one + " is not public", Modifier.isPublic(one.getModifiers()), false);
            language(one);
        }
        CHECK.end();
    }

    private static void face() {
        Class<?> judge = MarkupJudge.class;
        CHECK.same("public and final", Modifier.toString(judge.getModifiers()), "public final");
        Set<String> seen = new TreeSet<>();
        for (Method method : judge.getDeclaredMethods()) {
            if (!Modifier.isPrivate(method.getModifiers())) {
                seen.add(method.toString());
            }
        }
        for (Constructor<?> constructor : judge.getDeclaredConstructors()) {
            if (!Modifier.isPrivate(constructor.getModifiers())) {
                seen.add(constructor.toString());
            }
        }
        for (Field field : judge.getDeclaredFields()) {
            if (!Modifier.isPrivate(field.getModifiers())) {
                seen.add(field.toString());
            }
        }
        String lang = " throws java.lang.";
        Set<String> due = new TreeSet<>(Set.of(
            "public static final int MarkupJudge.NONE",
            "public MarkupJudge()",
            "public int MarkupJudge.bytes(long,int)" + lang + "IllegalArgumentException,java.lang.IllegalStateException",
            "public int MarkupJudge.clear()",
            "public int MarkupJudge.judge(int)" + lang
                + "IllegalArgumentException,java.lang.IllegalStateException,java.lang.UnsupportedOperationException",
            "public int MarkupJudge.events()",
            "public int MarkupJudge.event(int,int)" + lang + "IndexOutOfBoundsException",
            "public int MarkupJudge.character(int,int)" + lang + "IndexOutOfBoundsException",
            "public int MarkupJudge.cost()",
            "public int MarkupJudge.count(int)"));
        CHECK.same("the face", seen, due);
    }

    private static void language(Class<?> one) {
        int fields = 0;
        for (Field field : one.getDeclaredFields()) {
            if (Modifier.isStatic(field.getModifiers())) {
                CHECK.same(field + " is final", Modifier.isFinal(field.getModifiers()), true);
            } else {
                fields++;
            }
        }
        CHECK.same(one + " has at most twenty fields", fields <= 20, true);
        Set<String> names = Set.of("bytes", "clear", "judge", "events", "event", "character", "cost", "count");
        for (Method method : one.getDeclaredMethods()) {
            CHECK.same(method + " has at most seven parameters", method.getParameterCount() <= 7, true);
            boolean isPublic = Modifier.isPublic(method.getModifiers());
            CHECK.same(method + " bears no name of the face", !isPublic && names.contains(method.getName()), false);
        }
    }
}
