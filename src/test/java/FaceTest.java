import java.io.IOException;
import java.lang.reflect.Array;
import java.lang.reflect.Constructor;
import java.lang.reflect.Field;
import java.lang.reflect.Method;
import java.lang.reflect.Modifier;
import java.nio.file.Files;
import java.nio.file.Path;
import java.util.ArrayDeque;
import java.util.ArrayList;
import java.util.Collections;
import java.util.Deque;
import java.util.IdentityHashMap;
import java.util.List;
import java.util.Set;
import java.util.TreeSet;

/** The public face, the room that a desk takes, and what of LANGUAGE.md can be seen in the text. */
public final class FaceTest {
    private static final Checks c = new Checks();

    private static final String[] FACE = {"alter(int,int)boolean", "count(int)int", "cut(int)int", "end(int)int",
        "fault(int)int", "feed(int,int,int,int,int)int", "fold()int", "formula(int,int)int", "formulas()int",
        "holds(int,int)boolean", "out(int)int", "proof()int", "prove(int,int)int", "read(int,boolean)int",
        "sees(int,int)boolean", "set(int,int)int", "slot(int,int)int", "take()int", "tell(int)int", "verify(int)int",
        "world(int,int)int", "worlds()int"};

    public static void main(String[] args) throws IOException, IllegalAccessException {
        face();
        room();
        language();
        c.end("FaceTest");
    }

    private static void face() {
        Class<?> k = ModalDesk.class;
        c.due("the class is public and final", Modifier.isPublic(k.getModifiers()) && Modifier.isFinal(k.getModifiers()), true);
        Set<String> found = new TreeSet<>();
        Set<String> names = new TreeSet<>();
        for (Method m : k.getDeclaredMethods()) {
            StringBuilder b = new StringBuilder(m.getName()).append('(');
            for (Class<?> p : m.getParameterTypes()) {
                b.append(b.charAt(b.length() - 1) == '(' ? "" : ",").append(p.getName());
            }
            if (Modifier.isPublic(m.getModifiers())) {
                found.add(b.append(')').append(m.getReturnType().getName()).toString());
                names.add(m.getName());
            } else {
                c.due(m.getName() + " is private", Modifier.isPrivate(m.getModifiers()), true);
            }
        }
        c.due("public methods", found.toString(), new TreeSet<>(List.of(FACE)).toString());
        for (Constructor<?> d : k.getDeclaredConstructors()) {
            c.due("the constructor is public, without parameters", Modifier.isPublic(d.getModifiers()) && d.getParameterCount() == 0, true);
        }
        for (Field f : k.getDeclaredFields()) {
            boolean none = f.getName().equals("NONE");
            c.due(f.getName() + " is as visible as it may be", none ? Modifier.isPublic(f.getModifiers()) : Modifier.isPrivate(f.getModifiers()), true);
        }
        for (Class<?> inner : k.getDeclaredClasses()) {
            c.due(inner.getName() + " is static", Modifier.isStatic(inner.getModifiers()), true);
            c.due(inner.getName() + " is not public", Modifier.isPublic(inner.getModifiers()), false);
            for (Method m : inner.getDeclaredMethods()) {
                c.due(inner.getName() + "." + m.getName() + " bears no name of the face", names.contains(m.getName()), false);
            }
        }
        c.due("at most 12 classes", k.getDeclaredClasses().length + 1 <= 12, true);
    }

    /** Even 512 desks must find room in 7.3 million fields and elements and 600,000 objects. */
    private static void room() throws IllegalAccessException {
        ModalDesk desk = new ModalDesk();
        long[] fresh = sizeOf(desk);
        c.due("fields and elements of a desk are few", fresh[0] <= 14200, true);
        c.due("objects of a desk are few", fresh[1] <= 1100, true);
        Checks.read(desk, 0, "!([]<>a&[]<>!a)");
        desk.prove(0, 1000);
        desk.fold();
        Checks.readIntuitionistic(desk, 1, "!!(a|!a)");
        desk.prove(1, 1000);
        desk.proof();
        desk.take();
        desk.verify(1);
        desk.tell(desk.slot(1, 0));
        long[] used = sizeOf(desk);
        c.due("fields and elements after calls", used[0], fresh[0]);
        c.due("objects after calls", used[1], fresh[1]);
        System.out.println("FaceTest: a desk has " + fresh[0] + " fields and elements in " + fresh[1] + " objects");
    }

    private static long[] sizeOf(Object root) throws IllegalAccessException {
        Set<Object> seen = Collections.newSetFromMap(new IdentityHashMap<>());
        Deque<Object> next = new ArrayDeque<>();
        next.add(root);
        seen.add(root);
        long size = 0;
        while (!next.isEmpty()) {
            Object o = next.remove();
            if (o.getClass().isArray()) {
                size += Array.getLength(o);
                continue;
            }
            for (Field f : o.getClass().getDeclaredFields()) {
                if (Modifier.isStatic(f.getModifiers())) {
                    continue;
                }
                size++;
                f.setAccessible(true);
                Object part = f.getType().isPrimitive() ? null : f.get(o);
                if (part != null && seen.add(part)) {
                    next.add(part);
                }
            }
        }
        return new long[] {size, seen.size()};
    }

    private static void language() throws IOException {
        List<String> lines = Files.readAllLines(Path.of("src/main/java/ModalDesk.java"));
        String text = String.join("\n", lines);
        String[] forbidden = {"->", "::", "catch", "try ", "finally", "synchronized", "assert ", "package ", "Exact(",
            ".hashCode", ".equals(", "System.out", "Random", "nanoTime", "currentTimeMillis", "static {", "@"};
        for (String word : forbidden) {
            c.due("the text has " + word, text.contains(word), false);
        }
        for (String line : lines) {
            if (line.startsWith("import ")) {
                c.due("an import", line, "import java.util.NoSuchElementException;");
            }
        }
        c.due("the longest method has at most 60 lines", longestMethod(lines) <= 60, true);
    }

    private static int longestMethod(List<String> lines) {
        int longest = 0;
        List<Integer> begun = new ArrayList<>();
        for (int i = 0; i < lines.size(); i++) {
            String line = lines.get(i);
            boolean head = line.endsWith("{") && line.contains("(") && (line.matches(" {4}\\w.*") || line.matches(" {8}\\w.*"))
                && !line.matches(" *(if|for|while|switch|else).*");
            if (head) {
                begun.add(i);
            }
            if (!begun.isEmpty() && line.equals(lines.get(begun.get(begun.size() - 1)).replaceAll("\\S.*", "") + "}")) {
                longest = Math.max(longest, i - begun.remove(begun.size() - 1) + 1);
            }
        }
        return longest;
    }
}
