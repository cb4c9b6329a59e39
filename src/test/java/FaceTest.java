import java.lang.reflect.Constructor;
import java.lang.reflect.Field;
import java.lang.reflect.Method;
import java.lang.reflect.Modifier;
import java.util.Arrays;
import java.util.Set;
import java.util.TreeSet;

/** The class has the document's face and no other open member. */
public final class FaceTest {
    private static final String[] FACE = {
        "public int add(int,long)", "public int addNone(int)",
        "public int addText(int)", "public int alike(int,int)",
        "public int byteAt(int)", "public int column(int,int,boolean)",
        "public int cut(int)", "public int fault(int)",
        "public int has(int,int)", "public int letter(int,int,int)",
        "public int poke(int,int)", "public int put(long,int)",
        "public int read(int)", "public int repeat(int,int,int)",
        "public int size()", "public int told(int,int)",
        "public int type(long,int)", "public long value(int,int)",
        "public int write(int,int,int,boolean)"
    };

    public static void main(String[] args) {
        Check check = new Check();
        Class<ColumnPages> type = ColumnPages.class;
        check.due("class", Modifier.toString(type.getModifiers()), "public final");
        Set<String> open = new TreeSet<>();
        Set<String> openNames = new TreeSet<>();
        for (Method method : type.getDeclaredMethods()) {
            if (!Modifier.isPrivate(method.getModifiers()) && !method.isSynthetic()) {
                open.add(told(method));
                openNames.add(method.getName());
            }
        }
        Set<String> face = new TreeSet<>(Arrays.asList(FACE));
        check.due("methods", open.toString(), face.toString());
        for (Method method : type.getDeclaredMethods()) {
            if (Modifier.isPrivate(method.getModifiers())) {
                check.due("private " + method.getName(), openNames.contains(method.getName()) ? 1 : 0, 0);
            }
        }
        for (Field field : type.getDeclaredFields()) {
            boolean constant = Arrays.asList("BAD", "NOT", "FULL").contains(field.getName());
            String due = constant ? "public static final" : "private";
            check.due("field " + field, Modifier.toString(field.getModifiers()).startsWith(due) ? 1 : 0, 1);
        }
        check.due("BAD", ColumnPages.BAD, -1);
        check.due("NOT", ColumnPages.NOT, -2);
        check.due("FULL", ColumnPages.FULL, -3);
        for (Constructor<?> constructor : type.getDeclaredConstructors()) {
            check.due("constructor", constructor.toString(), "public ColumnPages()");
        }
        for (Class<?> inside : type.getDeclaredClasses()) {
            int modifiers = inside.getModifiers();
            boolean good = Modifier.isStatic(modifiers) && !Modifier.isPublic(modifiers)
                && !Modifier.isProtected(modifiers);
            check.due("class inside " + inside, good ? 1 : 0, 1);
        }
        check.end("FaceTest");
    }

    private static String told(Method method) {
        StringBuilder text = new StringBuilder(Modifier.toString(method.getModifiers()));
        text.append(' ').append(method.getReturnType().getName()).append(' ').append(method.getName()).append('(');
        for (int i = 0; i < method.getParameterCount(); i++) {
            text.append(i > 0 ? "," : "").append(method.getParameterTypes()[i].getName());
        }
        return text.append(')').toString();
    }
}
