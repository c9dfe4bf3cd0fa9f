import java.lang.reflect.Constructor;
import java.lang.reflect.Field;
import java.lang.reflect.Method;
import java.lang.reflect.Modifier;
import java.util.Set;
import java.util.TreeSet;

// The class shows the document's face and nothing beside it (rule 1 of LANGUAGE.md).
public final class OrderedDeskFaceTest {
    private static final Set<String> FACE = Set.of(
        "long put(int,int)", "long add(int,int)", "long get(int)", "long remove(int)",
        "boolean has(int,int)", "long near(int,int)", "long poll(boolean)", "int size()",
        "int clear()", "int look(int,int,boolean,int,boolean)",
        "int narrow(int,int,boolean,int,boolean)", "int turn()", "int viewSize()",
        "long viewPut(int,int)", "long viewGet(int)", "long viewRemove(int)",
        "long viewNear(int,int)", "long viewPoll(boolean)", "long viewKey(int)", "long walk()",
        "int sweep(int,int)", "int viewClear()", "int again()");

    private static int wrong = 0;

    public static void main(String[] args) {
        Class<?> face = OrderedDesk.class;
        check(Modifier.isPublic(face.getModifiers()) && Modifier.isFinal(face.getModifiers()),
            "the class is not public and final");
        checkMethods(face);
        checkConstructors(face);
        for (Field field : face.getDeclaredFields()) {
            check(Modifier.isPrivate(field.getModifiers()), "a field is not private: " + field);
            check(!Modifier.isStatic(field.getModifiers()) || Modifier.isFinal(field.getModifiers()),
                "a static field is not final: " + field);
        }
        for (Class<?> inside : face.getDeclaredClasses()) {
            check(Modifier.isStatic(inside.getModifiers()), "a class inside is not static: " + inside);
            check(!Modifier.isPublic(inside.getModifiers()), "a class inside is public: " + inside);
        }
        System.out.println(wrong == 0 ? "the face is the document's" : wrong + " faults of the face");
        if (wrong != 0) {
            System.exit(1);
        }
    }

    private static void checkMethods(Class<?> face) {
        Set<String> missing = new TreeSet<>(FACE);
        Set<String> publicNames = new TreeSet<>();
        for (String told : FACE) {
            publicNames.add(told.substring(told.indexOf(' ') + 1, told.indexOf('(')));
        }
        for (Method method : face.getDeclaredMethods()) {
            String told = told(method);
            if (Modifier.isPrivate(method.getModifiers())) {
                check(!publicNames.contains(method.getName()), "a private method has a public name: " + told);
                continue;
            }
            check(Modifier.isPublic(method.getModifiers()) && !Modifier.isStatic(method.getModifiers())
                && missing.remove(told), "not in the document: " + told);
        }
        check(missing.isEmpty(), "missing: " + missing);
    }

    private static void checkConstructors(Class<?> face) {
        Constructor<?>[] all = face.getDeclaredConstructors();
        check(all.length == 1 && all[0].getParameterCount() == 0 && Modifier.isPublic(all[0].getModifiers()),
            "the constructors are not the document's");
    }

    private static String told(Method method) {
        StringBuilder text = new StringBuilder();
        text.append(method.getReturnType().getSimpleName()).append(' ').append(method.getName()).append('(');
        String between = "";
        for (Class<?> type : method.getParameterTypes()) {
            text.append(between).append(type.getSimpleName());
            between = ",";
        }
        return text.append(')').toString();
    }

    private static void check(boolean holds, String fault) {
        if (!holds) {
            wrong++;
            System.out.println(fault);
        }
    }
}
