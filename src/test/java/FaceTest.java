import java.io.IOException;
import java.lang.reflect.Constructor;
import java.lang.reflect.Field;
import java.lang.reflect.Member;
import java.lang.reflect.Method;
import java.lang.reflect.Modifier;
import java.util.Arrays;
import java.util.Set;
import java.util.TreeSet;
import java.util.regex.Matcher;
import java.util.regex.Pattern;
import java.util.stream.Collectors;

/** What others see of the class is what the document's public face tells, word by word. */
public final class FaceTest {
    private static final Pattern CLASS = Pattern.compile("^(.*?) \\{ ");
    private static final Pattern MEMBER = Pattern.compile("public [^;{]*(?=;)");
    private static final Pattern PARAMETER_NAME = Pattern.compile(" \\w+(?=[,)])");

    private FaceTest() {
    }

    public static void main(String[] args) throws IOException, ReflectiveOperationException {
        String told = new Document().text("The public face");
        if (told.isEmpty()) {
            System.out.println("the face is not compared");
            return;
        }
        Set<String> due = due(told);
        Set<String> there = there();
        Set<String> missing = new TreeSet<>(due);
        missing.removeAll(there);
        Set<String> more = new TreeSet<>(there);
        more.removeAll(due);
        missing.forEach(member -> System.out.println("is missing: " + member));
        more.forEach(member -> System.out.println("is not in the document: " + member));
        System.out.println(due.size() + " lines of the face, " + (missing.size() + more.size())
                + " of them wrong");
        if (missing.size() + more.size() > 0 || due.size() < 2) {
            System.exit(1);
        }
    }

    /** The lines of the document, without the names of parameters. */
    private static Set<String> due(String told) {
        Set<String> due = new TreeSet<>();
        Matcher head = CLASS.matcher(told);
        if (head.find()) {
            due.add(head.group(1));
        }
        Matcher members = MEMBER.matcher(told);
        while (members.find()) {
            due.add(PARAMETER_NAME.matcher(members.group()).replaceAll(""));
        }
        return due;
    }

    /** All members that are not private, as the document would write them. */
    private static Set<String> there() throws ReflectiveOperationException {
        Set<String> there = new TreeSet<>();
        there.add(Modifier.toString(LibraryHouse.class.getModifiers()) + " class LibraryHouse");
        for (Field field : LibraryHouse.class.getDeclaredFields()) {
            if (isSeen(field)) {
                there.add(head(field) + field.getType() + " " + field.getName() + " = "
                        + field.get(null));
            }
        }
        for (Constructor<?> constructor : LibraryHouse.class.getDeclaredConstructors()) {
            if (isSeen(constructor)) {
                there.add(head(constructor) + "LibraryHouse"
                        + parameters(constructor.getParameterTypes()));
            }
        }
        for (Method method : LibraryHouse.class.getDeclaredMethods()) {
            if (isSeen(method)) {
                there.add(head(method) + method.getReturnType() + " " + method.getName()
                        + parameters(method.getParameterTypes()));
            }
        }
        return there;
    }

    private static boolean isSeen(Member member) {
        return !Modifier.isPrivate(member.getModifiers()) && !member.isSynthetic();
    }

    private static String head(Member member) {
        String modifiers = Modifier.toString(member.getModifiers());
        return modifiers.isEmpty() ? "" : modifiers + " ";
    }

    private static String parameters(Class<?>[] types) {
        return Arrays.stream(types).map(Class::getName).collect(Collectors.joining(", ", "(", ")"));
    }
}
