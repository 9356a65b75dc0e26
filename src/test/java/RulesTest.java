import java.io.IOException;
import java.lang.management.ManagementFactory;
import java.lang.reflect.Array;
import java.lang.reflect.Field;
import java.lang.reflect.Method;
import java.lang.reflect.Modifier;
import java.nio.file.Files;
import java.nio.file.Path;
import java.util.ArrayDeque;
import java.util.ArrayList;
import java.util.Collections;
import java.util.Deque;
import java.util.IdentityHashMap;
import java.util.List;
import java.util.Set;
import java.util.TreeSet;
import java.util.regex.Matcher;
import java.util.regex.Pattern;

/** The rules of LANGUAGE.md that a test can see: the face, the words, and the room that is used. */
public final class RulesTest {
    private static final Check check = new Check();
    private static final Path SOURCE = Path.of("src/main/java/MailParts.java");
    private static final String FACE = "[at(int,int,int)int, body(int,int)int, byteAt(int)int, count(int)int, end(int)int,"
            + " entity(int,int)int, feed(int,int,int,int,int)void, field(int)int, length(int,int)int, parameter(int)int,"
            + " read()int, text(boolean,int)int]";
    private static long objects = 0;
    private static long elements = 0;

    public static void main(String[] args) throws IOException, IllegalAccessException {
        face();
        sizes();
        words();
        roomOfAnObject();
        callsMakeNothing();
        check.finish();
    }

    private static void face() {
        Class<?> type = MailParts.class;
        check.due("public final", type.getModifiers(), Modifier.PUBLIC | Modifier.FINAL);
        check.due("constructors", type.getDeclaredConstructors().length, 1);
        check.due("public constructors", type.getConstructors().length, 1);
        Set<String> open = new TreeSet<>();
        Set<String> names = new TreeSet<>();
        for (Method method : type.getDeclaredMethods()) {
            if (!Modifier.isPrivate(method.getModifiers())) {
                open.add(signature(method));
                names.add(method.getName());
            }
        }
        check.due("methods", open.toString(), FACE);
        for (Method method : type.getDeclaredMethods()) {
            boolean hidden = Modifier.isPrivate(method.getModifiers());
            check.due("private " + method.getName(), hidden && names.contains(method.getName()) ? 1 : 0, 0);
        }
        for (Field field : type.getDeclaredFields()) {
            int modifiers = field.getModifiers();
            if (!field.getName().equals("NONE")) {
                check.due("private " + field.getName(), Modifier.isPrivate(modifiers) ? 1 : 0, 1);
            }
            if (Modifier.isStatic(modifiers)) {
                check.due("final " + field.getName(), Modifier.isFinal(modifiers) ? 1 : 0, 1);
            }
        }
        for (Class<?> inside : type.getDeclaredClasses()) {
            check.due("static " + inside.getName(), Modifier.isStatic(inside.getModifiers()) ? 1 : 0, 1);
        }
    }

    private static String signature(Method method) {
        StringBuilder text = new StringBuilder(method.getName()).append("(");
        for (Class<?> parameter : method.getParameterTypes()) {
            text.append(text.charAt(text.length() - 1) == '(' ? "" : ",").append(parameter.getName());
        }
        return text.append(")").append(method.getReturnType().getName()).toString();
    }

    /** Rule 11, as far as a number can be put to it. */
    private static void sizes() throws IOException {
        List<Class<?>> types = new ArrayList<>(List.of(MailParts.class.getDeclaredClasses()));
        types.add(MailParts.class);
        check.due("classes: " + types.size(), types.size() <= 12 ? 1 : 0, 1);
        for (Class<?> type : types) {
            int fields = 0;
            for (Field field : type.getDeclaredFields()) {
                fields += Modifier.isStatic(field.getModifiers()) ? 0 : 1;
            }
            check.due("fields of " + type.getName() + ": " + fields, fields <= 20 ? 1 : 0, 1);
            for (Method method : type.getDeclaredMethods()) {
                check.due("parameters of " + method, method.getParameterCount() <= 7 ? 1 : 0, 1);
            }
        }
        Matcher method = Pattern.compile("(?m)^( {4}| {8})\\S[^;=\n]*\\) \\{\n(?:(?!\\1\\}$).*\n)*\\1\\}$").matcher(Files.readString(SOURCE));
        int methods = 0;
        while (method.find()) {
            methods++;
            long lines = method.group().lines().count();
            check.due("lines of " + method.group().lines().findFirst() + ": " + lines, lines <= 60 ? 1 : 0, 1);
        }
        check.due("methods seen: " + methods, methods >= 60 ? 1 : 0, 1);
    }

    private static void words() throws IOException {
        String source = Files.readString(SOURCE);
        String code = source.replaceAll("(?s)/\\*.*?\\*/", "").replaceAll("//[^\n]*", "");
        for (String word : new String[] {"throw", "throws", "try", "catch", "synchronized", "assert", "import", "package", "System"}) {
            check.due("the word " + word, code.matches("(?s).*\\b" + word + "\\b.*") ? 1 : 0, 0);
        }
        for (String sign : new String[] {"->", "::"}) {
            check.due("the sign " + sign, code.contains(sign) ? 1 : 0, 0);
        }
    }

    /** Even a run that makes an object for each of 512 calls stays within the room. */
    private static void roomOfAnObject() throws IllegalAccessException {
        Set<Object> seen = Collections.newSetFromMap(new IdentityHashMap<>());
        Deque<Object> open = new ArrayDeque<>();
        open.add(new MailParts());
        while (!open.isEmpty()) {
            Object object = open.remove();
            if (seen.add(object)) {
                objects++;
                countInside(object, open);
            }
        }
        check.due("objects of one: " + objects, objects * 512 < 600_000 ? 1 : 0, 1);
        check.due("fields and elements of one: " + elements, elements * 512 < 7_300_000 ? 1 : 0, 1);
    }

    private static void countInside(Object object, Deque<Object> open) throws IllegalAccessException {
        if (object.getClass().isArray()) {
            elements += Array.getLength(object);
            for (int i = 0; i < Array.getLength(object) && !object.getClass().getComponentType().isPrimitive(); i++) {
                open.add(Array.get(object, i));
            }
            return;
        }
        for (Field field : object.getClass().getDeclaredFields()) {
            if (!Modifier.isStatic(field.getModifiers())) {
                elements++;
                field.setAccessible(true);
                Object inside = field.get(object);
                if (!field.getType().isPrimitive() && inside != null) {
                    open.add(inside);
                }
            }
        }
    }

    private static void callsMakeNothing() {
        com.sun.management.ThreadMXBean bean = (com.sun.management.ThreadMXBean) ManagementFactory.getThreadMXBean();
        MailParts x = Check.mail("Content-Type: multipart/digest; boundary=b\nContent-Disposition: x; filename=f\n\n" + "--b\n".repeat(300));
        long id = Thread.currentThread().getId();
        everyCall(x);
        long before = bean.getThreadAllocatedBytes(id);
        for (int i = 0; i < 100; i++) {
            everyCall(x);
        }
        long made = bean.getThreadAllocatedBytes(id) - before;
        check.due("1,200 calls made " + made + " bytes", made < 4096 ? 1 : 0, 1);
    }

    private static void everyCall(MailParts x) {
        x.entity(0, 9);
        x.length(0, 2);
        x.at(0, 0, 1);
        x.text(false, 3);
        x.count(1);
        x.body(0, 0);
        x.byteAt(0);
        x.read();
        x.feed(0x62000000, 0, 0, 0, 0);
        x.end(1);
        x.field(0);
        x.parameter(0);
    }
}
