import java.lang.reflect.Constructor;
import java.lang.reflect.Field;
import java.lang.reflect.Method;
import java.lang.reflect.Modifier;
import java.util.Set;
import java.util.TreeSet;

/** The face is the document's, and nothing else can be seen; no private method bears a public one's name. */
public final class FaceTest {
    private static final String[] FACE = {
        "int feed(long,long,long)", "int vale()", "int year()", "int house(int,int)", "int day(int,int)",
        "int date()", "boolean move(int,int)", "boolean send(int)", "int build(int)", "boolean undo()",
        "int judged(int)", "int where(int,int)", "int next(int)", "int gone(int)", "int crowd()",
        "int refused(int)", "int meets(int,int)", "int beds(int,int)", "int laying()", "int apart()",
        "int defer(int)", "boolean see(int,int)", "int who()", "int look()", "int through(int,int)",
        "int quiet()", "int peace()", "int loudest()", "int eldest(int)", "int spare()",
        "int chance(int,int,int)", "int rests(int,int,int,int)", "int ages(int,int,int)",
        "boolean mark(int,boolean)", "int count(int)",
    };

    public static void main(String[] args) {
        Bench bench = new Bench();
        Set<String> due = new TreeSet<>();
        for (String method : FACE) {
            due.add(method);
        }
        Set<String> seen = new TreeSet<>();
        Set<String> names = new TreeSet<>();
        for (Method method : DateVale.class.getDeclaredMethods()) {
            if (!Modifier.isPrivate(method.getModifiers()) && !method.isSynthetic()) {
                seen.add(told(method));
                names.add(method.getName());
                bench.due(method + " is public and of the object", method.getModifiers(), Modifier.PUBLIC);
            }
        }
        bench.due("the face " + seen + " against " + due, seen.equals(due), true);
        hidden(bench, DateVale.class, names);
        for (Class<?> inside : DateVale.class.getDeclaredClasses()) {
            hidden(bench, inside, names);
            bench.due(inside + " is static", Modifier.isStatic(inside.getModifiers()), true);
            bench.due(inside + " is not public", Modifier.isPublic(inside.getModifiers()), false);
        }
        bench.due("classes, some twelve", DateVale.class.getDeclaredClasses().length <= 12, true);
        for (Field field : DateVale.class.getDeclaredFields()) {
            boolean constant = field.getName().equals("NONE");
            bench.due(field + " is private but for NONE", Modifier.isPrivate(field.getModifiers()), !constant);
        }
        for (Constructor<?> made : DateVale.class.getDeclaredConstructors()) {
            bench.due(made + " is the one", made.getParameterCount() == 0 && Modifier.isPublic(made.getModifiers()), true);
        }
        bench.due("DateVale is final", Modifier.isFinal(DateVale.class.getModifiers()), true);
        bench.due("NONE", DateVale.NONE, -1);
        bench.end("FaceTest");
    }

    private static void hidden(Bench bench, Class<?> type, Set<String> names) {
        int fields = 0;
        for (Method method : type.getDeclaredMethods()) {
            boolean ofTheFace = type == DateVale.class && Modifier.isPublic(method.getModifiers());
            bench.due(method + " bears a public one's name", !ofTheFace && names.contains(method.getName()), false);
            bench.due(method + " has seven parameters at most", method.getParameterCount() <= 7, true);
        }
        for (Field field : type.getDeclaredFields()) {
            boolean isStatic = Modifier.isStatic(field.getModifiers());
            fields += isStatic ? 0 : 1;
            bench.due(field + " is final if static", !isStatic || Modifier.isFinal(field.getModifiers()), true);
        }
        bench.due(type + " has some twenty fields at most", fields <= 20, true);
    }

    private static String told(Method method) {
        StringBuilder text = new StringBuilder();
        text.append(method.getReturnType()).append(' ').append(method.getName()).append('(');
        for (int at = 0; at < method.getParameterCount(); at++) {
            text.append(at == 0 ? "" : ",").append(method.getParameterTypes()[at]);
        }
        return text.append(')').toString();
    }
}
