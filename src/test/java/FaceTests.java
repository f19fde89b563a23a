import java.io.IOException;
import java.lang.reflect.Constructor;
import java.lang.reflect.Field;
import java.lang.reflect.Method;
import java.lang.reflect.Modifier;
import java.nio.file.Files;
import java.nio.file.Path;
import java.util.IdentityHashMap;
import java.util.Map;
import java.util.Set;
import java.util.TreeSet;
import java.util.regex.Matcher;
import java.util.regex.Pattern;

/** The public face is that of the document, and the source keeps to what LANGUAGE.md leaves. */
public final class FaceTests extends Due {
    private static final String[] FACE = {"places 1", "rule 4", "last 1", "span 4", "told 2", "drop 1", "act 2",
        "overlap 2", "higher 2", "put 2", "writes 2", "write 2", "strike 2", "at 2", "judged 2", "right 1", "covered 2",
        "shown 2", "spare 2", "melt 3", "over 0", "differ 0", "build 1", "undo 0", "count 1"};
    private static final String[] FORBIDDEN = {"\\bthrow\\b", "\\btry\\b", "\\bcatch\\b", "\\bsynchronized\\b",
        "\\bassert\\b", "->", "::", "\\bprotected\\b", "\\bvolatile\\b", "\\binterface\\b.*\\bdefault\\b", "\\bpackage\\b",
        "Exact\\(", "System\\.(?!arraycopy)", "Object\\b", "static\\s*\\{", "\\[\\]\\s*\\[\\]\\s*\\["};

    private static final Set<String> LIBRARY = Set.of("Arrays.fill", "Math.max", "Math.min", "Math.floorMod",
        "Integer.bitCount");

    private FaceTests() {
    }

    public static void main(String[] args) throws Exception {
        face();
        nested();
        room();
        source();
        end("FaceTests");
    }

    private static void face() {
        Class<?> c = MatchRows.class;
        holds("the class is public and final", c.getModifiers() == (Modifier.PUBLIC | Modifier.FINAL));
        Set<String> open = new TreeSet<>();
        Set<String> names = new TreeSet<>();
        for (Method m : c.getDeclaredMethods()) {
            if (Modifier.isPublic(m.getModifiers())) {
                open.add(m.getName() + " " + m.getParameterCount());
                names.add(m.getName());
                holds(m + " answers an int", m.getReturnType() == int.class);
                for (Class<?> p : m.getParameterTypes()) {
                    holds(m + " takes ints", p == int.class);
                }
            } else {
                holds(m + " is private", Modifier.isPrivate(m.getModifiers()) || m.isSynthetic());
            }
        }
        holds("the public methods are those of the document", open.equals(new TreeSet<>(Set.of(FACE))));
        for (Method m : c.getDeclaredMethods()) {
            holds(m + " has a name of its own", Modifier.isPublic(m.getModifiers()) || !names.contains(m.getName()));
        }
        for (Constructor<?> k : c.getDeclaredConstructors()) {
            holds(k + " is that of the document", Modifier.isPublic(k.getModifiers()) && k.getParameterCount() == 0);
        }
        Set<String> constants = Set.of("BAD", "NOT", "FULL", "CAST");
        int seen = 0;
        for (Field f : c.getDeclaredFields()) {
            boolean constant = constants.contains(f.getName());
            seen += constant ? 1 : 0;
            holds(f + " is private or of the document", constant
                ? f.getModifiers() == (Modifier.PUBLIC | Modifier.STATIC | Modifier.FINAL)
                : Modifier.isPrivate(f.getModifiers()));
            holds(f + ": static is final", !Modifier.isStatic(f.getModifiers()) || Modifier.isFinal(f.getModifiers()));
        }
        due("constants of the document", seen, 4);
    }

    private static void nested() {
        Class<?>[] all = MatchRows.class.getDeclaredClasses();
        holds("some twelve classes at most", all.length < 12);
        for (Class<?> c : all) {
            holds(c + " is static", Modifier.isStatic(c.getModifiers()));
            holds(c + " is not open", !Modifier.isPublic(c.getModifiers()) && !Modifier.isProtected(c.getModifiers()));
            int fields = 0;
            for (Field f : c.getDeclaredFields()) {
                fields += Modifier.isStatic(f.getModifiers()) ? 0 : 1;
            }
            holds(c + " has some twenty fields at most", fields <= 20);
            for (Method m : c.getDeclaredMethods()) {
                holds(m + " takes seven at most", m.getParameterCount() <= 7);
            }
        }
    }

    /** What an object takes of the room: objects and arrays, fields and elements. */
    private static void room() throws IllegalAccessException {
        MatchRows x = farTable();
        int[] taken = new int[2];
        measure(x, taken, new IdentityHashMap<>());
        holds(taken[0] + " objects and arrays, some 35 at most", taken[0] > 1 && taken[0] <= 35);
        holds(taken[1] + " fields and elements, some 2,100 at most", taken[1] > 100 && taken[1] <= 2100);
    }

    private static void measure(Object of, int[] taken, Map<Object, Object> seen) throws IllegalAccessException {
        if (of == null || seen.put(of, of) != null) {
            return;
        }
        taken[0]++;
        if (of instanceof int[]) {
            taken[1] += ((int[]) of).length;
            return;
        }
        holds(of.getClass() + " is of the class", of.getClass().getName().startsWith("MatchRows"));
        for (Field f : of.getClass().getDeclaredFields()) {
            if (!Modifier.isStatic(f.getModifiers())) {
                taken[1]++;
                f.setAccessible(true);
                if (!f.getType().isPrimitive()) {
                    measure(f.get(of), taken, seen);
                }
            }
        }
    }

    private static void source() throws IOException {
        String text = Files.readString(Path.of("src/main/java/MatchRows.java"));
        for (int i = 0; i < text.length(); i++) {
            char sign = text.charAt(i);
            if (sign != '\n' && (sign < 32 || sign > 126)) {
                holds("sign " + (int) sign + " at " + i, false);
            }
        }
        String code = text.replaceAll("(?s)/\\*.*?\\*/", "").replaceAll("//[^\n]*", "");
        for (String word : FORBIDDEN) {
            holds("no " + word, !Pattern.compile(word).matcher(code).find());
        }
        for (String line : code.split("\n")) {
            if (line.startsWith("import")) {
                holds(line, line.equals("import java.util.Arrays;"));
            }
        }
        methodLengths(code);
        libraryCalls(code);
        madeOnce(code);
    }

    /** LANGUAGE.md 4 lists more; this is what the class calls. */
    private static void libraryCalls(String code) {
        Matcher call = Pattern.compile("\\b([A-Z]\\w*\\.\\w+)\\(").matcher(code);
        Set<String> calls = new TreeSet<>();
        while (call.find()) {
            calls.add(call.group(1));
        }
        holds("the library that is called, " + calls, calls.equals(new TreeSet<>(LIBRARY)));
    }

    /** All calls of one run live in one room: objects and arrays are made with an object alone. */
    private static void madeOnce(String code) {
        int made = 0;
        for (String line : code.split("\n")) {
            if (line.matches(".*\\bnew\\b.*|.*\\.clone\\(.*")) {
                made++;
                holds("made with the object: " + line.trim(), line.matches("\\s+private final .* = new [^;]*;"));
            }
        }
        holds("something is made", made > 0);
    }

    private static void methodLengths(String code) {
        int depth = 0;
        int begin = 0;
        String[] lines = code.split("\n");
        for (int i = 0; i < lines.length; i++) {
            boolean opens = lines[i].matches("\\s+[^=;]*\\)\\s*\\{") && !lines[i].matches("\\s+(\\} else )?(if|for|while|switch)\\b.*");
            if (opens && depth == 0) {
                depth = lines[i].indexOf(lines[i].trim());
                begin = i;
            } else if (depth > 0 && lines[i].startsWith(" ".repeat(depth) + "}")) {
                holds("the method at '" + lines[begin].trim() + "' is short", i - begin < 60);
                depth = 0;
            }
        }
        due("the end of the last method is seen", depth, 0);
    }
}
