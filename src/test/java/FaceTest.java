import java.lang.reflect.Array;
import java.lang.reflect.Constructor;
import java.lang.reflect.Field;
import java.lang.reflect.Method;
import java.lang.reflect.Modifier;
import java.nio.file.Files;
import java.nio.file.Path;
import java.util.Collections;
import java.util.IdentityHashMap;
import java.util.Set;
import java.util.TreeSet;
import java.util.regex.Matcher;
import java.util.regex.Pattern;

/** The class has the document's face and no more, and keeps to what of LANGUAGE.md can be seen from outside. */
public final class FaceTest {
    private static final Path SOURCE = Path.of("src/main/java/MenOnCradles.java");
    private static final Path DOCUMENT = Path.of("../shared/DOC.md");

    private static String faceOf(Method m) {
        StringBuilder b = new StringBuilder(m.getReturnType().getName()).append(' ').append(m.getName()).append('(');
        for (Class<?> c : m.getParameterTypes()) b.append(c.getName()).append(',');
        return b.append(')').toString();
    }

    private static Set<String> documentFace() throws Exception {
        Set<String> face = new TreeSet<>();
        String text = Files.readString(DOCUMENT);
        text = text.substring(text.indexOf("```java"), text.indexOf("## Terms"));
        Matcher m = Pattern.compile("public (\\w+) (\\w+)\\(([^)]*)\\)").matcher(text);
        while (m.find()) {
            StringBuilder b = new StringBuilder(m.group(1)).append(' ').append(m.group(2)).append('(');
            for (String p : m.group(3).split(",")) if (!p.isBlank()) b.append(p.trim().split(" ")[0]).append(',');
            face.add(b.append(')').toString());
        }
        return face;
    }

    private static void face() throws Exception {
        Class<?> c = MenOnCradles.class;
        Set<String> open = new TreeSet<>();
        Set<String> names = new TreeSet<>();
        for (Method m : c.getDeclaredMethods()) {
            if (!Modifier.isPrivate(m.getModifiers())) { open.add(faceOf(m)); names.add(m.getName()); }
        }
        Set<String> due = documentFace();
        Due.due("the document has 56 methods", due.size(), 56);
        Due.yes("the open methods are the document's: " + open, open.equals(due));
        for (Method m : c.getDeclaredMethods()) {
            boolean hidden = Modifier.isPrivate(m.getModifiers());
            Due.no("private " + m.getName() + " bears an open name", hidden && names.contains(m.getName()));
            Due.yes(m.getName() + " is no more than public", hidden || Modifier.isPublic(m.getModifiers()));
        }
        for (Field f : c.getDeclaredFields()) {
            boolean none = f.getName().equals("NONE") && Modifier.isPublic(f.getModifiers()) && Modifier.isFinal(f.getModifiers());
            Due.yes("field " + f.getName(), none || Modifier.isPrivate(f.getModifiers()));
        }
        for (Constructor<?> k : c.getDeclaredConstructors()) Due.due("constructor", k.getParameterCount(), 0);
        Due.yes("final", Modifier.isFinal(c.getModifiers()) && Modifier.isPublic(c.getModifiers()));
        Due.due("NONE", MenOnCradles.NONE, -1);
        for (String thrower : new String[] {"made", "plan", "fixed", "tried"}) {
            for (Method m : c.getMethods()) {
                if (m.getName().equals(thrower)) Due.due(thrower + " tells what it throws", m.getExceptionTypes().length, 1);
            }
        }
    }

    private static void sizes() {
        Class<?>[] inside = MenOnCradles.class.getDeclaredClasses();
        Due.yes("some twelve classes: " + inside.length, inside.length < 12);
        for (Class<?> c : inside) {
            Due.yes(c + " is static", Modifier.isStatic(c.getModifiers()));
            Due.no(c + " is open", Modifier.isPublic(c.getModifiers()) || Modifier.isProtected(c.getModifiers()));
        }
        for (int i = 0; i <= inside.length; i++) {
            Class<?> c = i < inside.length ? inside[i] : MenOnCradles.class;
            int fields = 0;
            for (Field f : c.getDeclaredFields()) {
                if (!Modifier.isStatic(f.getModifiers())) fields++;
                else Due.yes(c + "." + f.getName() + " is final", Modifier.isFinal(f.getModifiers()));
            }
            Due.yes(c + " has some twenty fields: " + fields, fields <= 20);
            for (Method m : c.getDeclaredMethods()) Due.yes(m + " takes seven at most", m.getParameterCount() <= 7);
        }
    }

    private static void words() throws Exception {
        String text = Files.readString(SOURCE);
        String[] ruledOut = {"->", "::", "catch", "finally", "synchronized", "assert ", "getMessage", "Exact", "System.",
            "Random", "double", "float", "package ", "hashCode", "toString", "@", "var ", "Object", "instanceof", "static {"};
        for (String word : ruledOut) Due.no("the source has " + word, text.contains(word));
        for (int i = 0; i < text.length(); i++) {
            if (text.charAt(i) > 126) Due.due("a sign beyond 126 at " + i, text.charAt(i), 0);
        }
        int lines = 0;
        for (String line : text.split("\n")) {
            boolean starts = line.matches("    (    )?[a-z].*\\) (throws \\w+ )?\\{");
            lines = starts ? 0 : lines + 1;
            if (line.matches("    (    )?\\}")) {
                Due.yes("a method of " + lines + " lines ends with " + line, lines <= 60);
                lines = 0;
            }
        }
    }

    /** Counts an object with all that it holds: how many objects and arrays, how many fields and elements. */
    private static long[] roomOf(Object held, Set<Object> seen) throws Exception {
        long[] room = new long[2];
        if (held == null || held instanceof String || !seen.add(held)) return room;
        room[0] = 1;
        Class<?> c = held.getClass();
        if (c.isArray()) {
            int n = Array.getLength(held);
            room[1] += n;
            for (int i = 0; i < n && !c.getComponentType().isPrimitive(); i++) add(room, roomOf(Array.get(held, i), seen));
        }
        for (Field f : c.getDeclaredFields()) {
            if (Modifier.isStatic(f.getModifiers())) continue;
            f.setAccessible(true);
            room[1]++;
            if (!f.getType().isPrimitive()) add(room, roomOf(f.get(held), seen));
        }
        return room;
    }

    private static void add(long[] room, long[] more) {
        room[0] += more[0];
        room[1] += more[1];
    }

    private static long[] roomOf(MenOnCradles x) throws Exception {
        return roomOf(x, Collections.newSetFromMap(new IdentityHashMap<>()));
    }

    /** The rows are made in the constructor; behind it a tower alone makes some: itself, and two rows of bits. */
    private static void room() throws Exception {
        long[] first = roomOf(new MenOnCradles());
        Due.yes("objects and arrays of a new one: " + first[0], first[0] <= 150);
        Due.yes("fields and elements of a new one: " + first[1], first[1] <= 13_000);
        long[] busy = roomOf(Start.BUSY.make());
        Due.due("objects and arrays for three towers", busy[0] - first[0], 3 * 3);
        Due.yes("fields and elements for three towers: " + (busy[1] - first[1]), busy[1] - first[1] <= 3 * 60);
    }

    public static void main(String[] args) throws Exception {
        face();
        sizes();
        words();
        room();
        Due.end("FaceTest");
    }
}
