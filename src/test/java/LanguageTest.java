import java.io.IOException;
import java.lang.reflect.Field;
import java.lang.reflect.Method;
import java.lang.reflect.Modifier;
import java.nio.file.Files;
import java.nio.file.Path;
import java.util.List;
import java.util.Set;
import java.util.TreeSet;
import java.util.regex.Matcher;
import java.util.regex.Pattern;

/** The rules of LANGUAGE.md that a machine can see, and the room that an object and its calls take. */
public final class LanguageTest {
    private static final Path SOURCE = Path.of("src", "main", "java", "LibraryHouse.java");
    private static final String FACE = "feed end tick record edit drop print printed heading rename"
            + " broader link find hit value reader copy away rules closed lend renew back hold unhold"
            + " pay state queue owes serial issue came claim fund order invoice cancel transfer money"
            + " pack answers alter lose mend octet load harvest next sync power count broken home"
            + " pickup routes bring where book unbook mark shelf checks strict broke batch result"
            + " retention freeze due dispose exchange deed done tally";
    private static int wrong = 0;

    public static void main(String[] args) throws IOException, ReflectiveOperationException {
        String source = Files.readString(SOURCE).replaceAll("(?s)/\\*.*?\\*/", "")
                .replaceAll("//.*", "").replaceAll("'\"'", "0").replaceAll("\"[^\"\n]*+\"", "\"\"");
        words(source);
        methods(source);
        face();
        room();
        System.out.println(wrong + " rules are not kept");
        if (wrong > 0) {
            System.exit(1);
        }
    }

    private static void rule(int number, boolean kept, String what) {
        if (!kept) {
            wrong++;
            System.out.println("rule " + number + ": " + what);
        }
    }

    private static void words(String source) {
        for (String word : List.of("throw", "throws", "try", "catch", "finally", "synchronized",
                "assert", "hashCode", "toString", "yield", "var", "volatile", "native", "Object",
                "Math\\.\\w+Exact", "Thread", "Random", "currentTimeMillis", "nanoTime", "System\\.out",
                "instanceof", "protected", "package")) {
            rule(6, !Pattern.compile("\\b" + word + "\\b").matcher(source).find(), "has " + word);
        }
        rule(2, !source.contains("->") && !source.contains("::"), "has a lambda, or the like");
        rule(3, !source.contains("[][]["), "has an array of three dimensions");
        rule(5, !Pattern.compile("static\\s*\\{").matcher(source).find(), "has a static block");
        Matcher imports = Pattern.compile("import ([^;]*);").matcher(source);
        while (imports.find()) {
            rule(4, imports.group(1).equals("java.util.Arrays"), "imports " + imports.group(1));
        }
        Matcher library = Pattern.compile("\\b(System|Arrays|Integer|Long|Math)\\.(\\w+)").matcher(source);
        Set<String> known = Set.of("System.arraycopy", "Arrays.fill", "Math.max", "Math.min");
        while (library.find()) {
            rule(4, known.contains(library.group()), "uses " + library.group());
        }
        rule(9, !source.contains("while (true)") && !source.contains("for (;;)"), "an endless loop");
    }

    private static void methods(String source) {
        Set<String> face = new TreeSet<>(List.of(FACE.split(" ")));
        Pattern head = Pattern.compile("^( {4}| {8})((?:\\w+(?:\\[\\])* )+)(\\w+)\\(([^)]*)\\) \\{$");
        String[] lines = source.split("\n");
        int classes = 0;
        for (int i = 0; i < lines.length; i++) {
            classes += lines[i].contains(" class ") ? 1 : 0;
            rule(1, !lines[i].matches(" {4}(static|final|int|boolean|void|long).*"),
                    "a member that all of the package sees: " + lines[i]);
            Matcher method = head.matcher(lines[i]);
            if (method.find() && !method.group(3).equals("LibraryHouse")) {
                int end = i;
                while (!lines[end].equals(method.group(1) + "}")) {
                    end++;
                }
                rule(11, end - i < 60, method.group(3) + " has " + (end - i + 1) + " lines");
                rule(11, method.group(4).split(",").length <= 7, method.group(3) + "'s parameters");
                rule(1, face.contains(method.group(3)) == method.group(2).startsWith("public"),
                        "the name of " + method.group(3));
            }
        }
        rule(11, classes <= 12, classes + " classes");
    }

    private static void face() {
        Set<String> due = new TreeSet<>(List.of(FACE.split(" ")));
        Set<String> there = new TreeSet<>();
        for (Method method : LibraryHouse.class.getDeclaredMethods()) {
            if (!Modifier.isPrivate(method.getModifiers())) {
                there.add(method.getName());
            }
        }
        rule(1, there.equals(due), "the face is " + there);
        rule(1, Modifier.isFinal(LibraryHouse.class.getModifiers()), "the class is not final");
        rule(1, LibraryHouse.class.getDeclaredConstructors().length == 1, "the constructors");
        Set<String> constants = new TreeSet<>();
        for (Field field : LibraryHouse.class.getDeclaredFields()) {
            if (!Modifier.isPrivate(field.getModifiers())) {
                constants.add(field.getName());
            }
        }
        rule(1, constants.equals(Set.of("NONE", "RANGE", "STATE", "FULL")), "has " + constants);
        fields(LibraryHouse.class);
        for (Class<?> inside : LibraryHouse.class.getDeclaredClasses()) {
            rule(1, Modifier.isStatic(inside.getModifiers())
                    && Modifier.isPrivate(inside.getModifiers()), inside + " is seen outside");
            fields(inside);
        }
    }

    private static void fields(Class<?> type) {
        int number = 0;
        for (Field field : type.getDeclaredFields()) {
            boolean fixed = Modifier.isStatic(field.getModifiers());
            rule(5, !fixed || Modifier.isFinal(field.getModifiers()), field + " is not final");
            number += fixed ? 0 : 1;
        }
        rule(11, number <= 20, type + " has " + number + " fields");
    }

    /** What an object has, and that no call makes another one. */
    private static void room() throws ReflectiveOperationException {
        long[] made = new long[2];
        var threads = (com.sun.management.ThreadMXBean)
                java.lang.management.ManagementFactory.getThreadMXBean();
        long id = Thread.currentThread().getId();
        long most = 0;
        for (int round = 0; round < 30; round++) {
            LibraryHouse house = new LibraryHouse();
            long before = threads.getThreadAllocatedBytes(id);
            manyCalls(house);
            most = threads.getThreadAllocatedBytes(id) - before;
            if (round == 0) {
                weigh(house, made);
            }
        }
        System.out.println("an object has " + made[0] + " objects with " + made[1]
                + " fields and elements; 500 calls made " + most + " bytes more");
        rule(12, made[0] < 200 && made[1] < 300000, "an object takes too much room");
        rule(12, most < 2000, "calls make objects");
    }

    private static void weigh(Object object, long[] made) throws ReflectiveOperationException {
        Set<Object> seen = java.util.Collections.newSetFromMap(new java.util.IdentityHashMap<>());
        java.util.ArrayDeque<Object> open = new java.util.ArrayDeque<>(List.of(object));
        while (!open.isEmpty()) {
            Object next = open.pop();
            if (!seen.add(next)) {
                continue;
            }
            made[0]++;
            if (next.getClass().isArray()) {
                int length = java.lang.reflect.Array.getLength(next);
                made[1] += length;
                for (int i = 0; next instanceof Object[] && i < length; i++) {
                    open.push(java.lang.reflect.Array.get(next, i));
                }
                continue;
            }
            for (Field field : next.getClass().getDeclaredFields()) {
                if (!Modifier.isStatic(field.getModifiers())) {
                    made[1]++;
                    if (!field.getType().isPrimitive()) {
                        field.setAccessible(true);
                        open.push(field.get(next));
                    }
                }
            }
        }
    }

    private static void manyCalls(LibraryHouse house) {
        for (int i = 0; i < 60; i++) {
            house.feed(0x32343520, 0x30302461, 0x4c616b65, 0x730a0000, 0);
            house.end(14);
            house.record();
            house.feed(0x6e3d6c2a, 0, 0, 0, 0);
            house.end(4);
            house.find();
            house.value(245, 0, 0);
            house.print(1 + i, i % 2, 0);
            house.reader(0);
        }
        house.copy(1, 0);
        house.hold(1, 1, 0);
        house.sync();
        house.power(1000);
        house.deed();
        house.tick(50);
        house.done(false);
    }
}
