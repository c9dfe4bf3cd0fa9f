import java.io.IOException;
import java.lang.reflect.Method;
import java.nio.file.Files;
import java.nio.file.Path;
import java.util.Set;
import java.util.TreeSet;
import java.util.regex.Matcher;
import java.util.regex.Pattern;

// Each call that README.md shows gives the answer that stands beside it, and each method is told of.
public final class OrderedDeskReadmeTest {
    private static final Path README = Path.of("README.md");
    private static final String NEW_DESK = "OrderedDesk desk = new OrderedDesk();";
    private static final Pattern CALL = Pattern.compile("desk\\.(\\w+)\\((.*)\\);\\s+// ([^:]+)(: .*)?");
    private static final Pattern IN_TABLE = Pattern.compile("`(\\w+)\\([^`]*\\)`");

    private static int wrong = 0;
    private static int shown = 0;

    public static void main(String[] args) throws IOException, ReflectiveOperationException {
        OrderedDesk desk = null;
        boolean inBlock = false;
        Set<String> told = new TreeSet<>();
        for (String line : Files.readAllLines(README)) {
            if (line.startsWith("```")) {
                inBlock = line.equals("```java");
            } else if (inBlock && line.equals(NEW_DESK)) {
                desk = new OrderedDesk();
            } else if (inBlock) {
                checkCall(desk, line);
            } else if (line.startsWith("| `")) {
                addMethods(line.split("\\|")[1], told);
            }
        }
        checkTold(told);
        check(shown > 0, "no call is shown");
        System.out.println(shown + " calls shown, " + wrong + " faults of README.md");
        if (wrong != 0) {
            System.exit(1);
        }
    }

    private static void checkCall(OrderedDesk desk, String line) throws ReflectiveOperationException {
        Matcher call = CALL.matcher(line);
        if (desk == null || !call.matches()) {
            check(false, "no call of a desk with its answer: " + line);
            return;
        }
        shown++;
        String got = told(answer(desk, call.group(1), call.group(2)));
        check(got.equals(call.group(3)), line + " -- answered " + got);
    }

    private static Object answer(OrderedDesk desk, String name, String list) throws ReflectiveOperationException {
        String[] texts = list.isEmpty() ? new String[0] : list.split(", ");
        Class<?>[] types = new Class<?>[texts.length];
        Object[] values = new Object[texts.length];
        for (int i = 0; i < texts.length; i++) {
            boolean isBoolean = texts[i].equals("true") || texts[i].equals("false");
            types[i] = isBoolean ? boolean.class : int.class;
            values[i] = isBoolean ? (Object) Boolean.valueOf(texts[i]) : Integer.valueOf(texts[i]);
        }
        return OrderedDesk.class.getMethod(name, types).invoke(desk, values);
    }

    private static String told(Object answer) {
        String text = answer.toString();
        return text.equals("1099511627776") ? "NOTHING" : text.equals("1099511627777") ? "OUTSIDE" : text;
    }

    private static void addMethods(String cell, Set<String> told) {
        Matcher method = IN_TABLE.matcher(cell);
        while (method.find()) {
            told.add(method.group(1));
        }
    }

    private static void checkTold(Set<String> told) {
        Set<String> due = new TreeSet<>();
        for (Method method : OrderedDesk.class.getMethods()) {
            if (method.getDeclaringClass() == OrderedDesk.class) {
                due.add(method.getName());
            }
        }
        check(told.equals(due), "the tables tell of " + told + ", the class has " + due);
    }

    private static void check(boolean holds, String fault) {
        if (!holds) {
            wrong++;
            System.out.println(fault);
        }
    }
}
