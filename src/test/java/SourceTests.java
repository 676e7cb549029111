import java.io.IOException;
import java.lang.reflect.Field;
import java.lang.reflect.Modifier;
import java.nio.charset.StandardCharsets;
import java.nio.file.Files;
import java.nio.file.Path;
import java.util.IdentityHashMap;
import java.util.List;
import java.util.Map;
import java.util.Set;
import java.util.TreeSet;
import java.util.regex.Matcher;
import java.util.regex.Pattern;

/** What LANGUAGE.md asks of the program's text and face, as far as a look at it can tell, and what an object takes of the room. */
public final class SourceTests {
    private static final int MOST_ELEMENTS = 8000, MOST_OBJECTS = 120, MOST_CALL_BYTES = 100000;
    private static int wrong = 0;

    public static void main(String[] args) throws IOException, ReflectiveOperationException {
        if (args.length < 1) {
            System.out.println("the program's path is wanted");
            System.exit(1);
        }
        String text = Files.readString(Path.of(args[0]), StandardCharsets.UTF_8);
        String code = withoutComments(text);
        words(text, code);
        methods(code);
        face();
        fields();
        room();
        calls();
        System.out.println(wrong == 0 ? "the program keeps to the language" : wrong + " faults against the language");
        if (wrong != 0) {
            System.exit(1);
        }
    }

    private static void fault(String what) {
        wrong++;
        System.out.println(what);
    }

    private static String withoutComments(String text) {
        return text.replaceAll("(?s)/\\*.*?\\*/", "").replaceAll("//[^\n]*", "");
    }

    private static void words(String text, String code) {
        if (!text.chars().allMatch(c -> c == '\n' || c >= 32 && c < 127)) {
            fault("a sign that is not plain");
        }
        String[] banned = {"throw", "throws", "try", "catch", "finally", "synchronized", "assert", "package", "protected",
            "volatile", "native", "Object", "equals", "hashCode", "toString", "Random", "Thread", "var", "record", "instanceof",
            "null", "String"};
        for (String word : banned) {
            if (Pattern.compile("\\b" + word + "\\b").matcher(code).find()) {
                fault("the word " + word);
            }
        }
        for (String sign : new String[] {"->", "::", "@", "\"", "Exact", "double", "float"}) {
            if (code.contains(sign)) {
                fault("the sign " + sign);
            }
        }
        Matcher imports = Pattern.compile("import ([^;]*);").matcher(code);
        while (imports.find()) {
            if (!imports.group(1).equals("java.util.Arrays")) {
                fault("import " + imports.group(1));
            }
        }
        Matcher library = Pattern.compile("\\b(System|Math|Arrays|Integer)\\.(\\w+)").matcher(code);
        Set<String> allowed = Set.of("System.arraycopy", "Math.min", "Math.max", "Arrays.fill");
        while (library.find()) {
            if (!allowed.contains(library.group())) {
                fault("the library's " + library.group());
            }
        }
    }

    private static void methods(String code) {
        Matcher m = Pattern.compile("(?m)^ +(?:public |private |static )*(?:int|void|boolean) (\\w+)\\(([^)]*)\\) \\{$").matcher(code);
        int many = 0;
        while (m.find()) {
            many++;
            String body = code.substring(m.start(), code.indexOf("\n" + " ".repeat(indent(m.group())) + "}", m.end()));
            if (body.split("\n").length > 60) {
                fault(m.group(1) + " is long");
            }
            if (m.group(2).split(",").length > 7) {
                fault(m.group(1) + " takes many parameters");
            }
        }
        if (many < 29) {
            fault("the methods were not found: " + many);
        }
    }

    private static int indent(String line) {
        return line.length() - line.stripLeading().length();
    }

    private static void face() {
        Set<String> due = new TreeSet<>(List.of("router/0", "link/3", "turn/2", "cost/2", "rule/2", "of/2", "between/2", "rounds/1",
            "entry/3", "known/2", "told/1", "then/4", "way/3", "ends/2", "shortest/2", "counts/2", "packet/4", "tried/1", "judge/2",
            "drawn/2", "feed/1", "script/0", "image/0", "back/0", "hold/3", "row/2", "put/3", "tells/2", "count/1"));
        Set<String> found = new TreeSet<>();
        Set<String> names = new TreeSet<>();
        for (var m : VectorRounds.class.getDeclaredMethods()) {
            if (Modifier.isPublic(m.getModifiers())) {
                found.add(m.getName() + "/" + m.getParameterCount());
                names.add(m.getName());
            } else if (!Modifier.isPrivate(m.getModifiers())) {
                fault("a method neither public nor private: " + m.getName());
            }
        }
        if (!found.equals(due)) {
            fault("the face is " + found);
        }
        for (var m : VectorRounds.class.getDeclaredMethods()) {
            if (!Modifier.isPublic(m.getModifiers()) && names.contains(m.getName())) {
                fault("a private method with a public one's name: " + m.getName());
            }
        }
        if (VectorRounds.class.getConstructors().length != 1 || VectorRounds.class.getDeclaredConstructors().length != 1
            || !Modifier.isFinal(VectorRounds.class.getModifiers())) {
            fault("the class or its constructor");
        }
    }

    private static void fields() {
        Class<?>[] inside = VectorRounds.class.getDeclaredClasses();
        if (inside.length > 11) {
            fault("many classes: " + inside.length);
        }
        looked(VectorRounds.class);
        for (Class<?> c : inside) {
            if (!Modifier.isStatic(c.getModifiers()) || Modifier.isPublic(c.getModifiers()) || Modifier.isProtected(c.getModifiers())) {
                fault("the class " + c.getName());
            }
            looked(c);
        }
    }

    private static void looked(Class<?> c) {
        Set<String> face = Set.of("BAD", "NOT", "FULL", "STATE", "VOID");
        int own = 0;
        for (Field f : c.getDeclaredFields()) {
            int how = f.getModifiers();
            own += Modifier.isStatic(how) ? 0 : 1;
            if (Modifier.isStatic(how) && !Modifier.isFinal(how)) {
                fault("a static field that is not final: " + f);
            }
            if (c == VectorRounds.class && Modifier.isPublic(how) != face.contains(f.getName())) {
                fault("the face's fields: " + f);
            }
            if (c == VectorRounds.class && !Modifier.isPublic(how) && !Modifier.isPrivate(how)) {
                fault("a field that is seen outside: " + f);
            }
        }
        if (own > 20) {
            fault(c + " has many fields: " + own);
        }
    }

    private static void room() throws ReflectiveOperationException {
        Map<Object, Boolean> seen = new IdentityHashMap<>();
        int elements = count(new VectorRounds(), seen);
        if (elements > MOST_ELEMENTS || seen.size() > MOST_OBJECTS) {
            fault("an object has " + elements + " fields and elements in " + seen.size() + " objects");
        }
    }

    private static int count(Object o, Map<Object, Boolean> seen) throws ReflectiveOperationException {
        if (o == null || seen.put(o, true) != null) {
            return 0;
        }
        int n = 0;
        if (o.getClass().isArray()) {
            n = java.lang.reflect.Array.getLength(o);
            if (o instanceof Object[] parts) {
                for (Object part : parts) {
                    n += count(part, seen);
                }
            }
            return n;
        }
        for (Field f : o.getClass().getDeclaredFields()) {
            if (!Modifier.isStatic(f.getModifiers())) {
                n++;
                f.setAccessible(true);
                if (!f.getType().isPrimitive()) {
                    n += count(f.get(o), seen);
                }
            }
        }
        return n;
    }

    /** Calls take nothing of the room that stays or goes: all is made with the object. */
    private static void calls() {
        if (!(java.lang.management.ManagementFactory.getThreadMXBean() instanceof com.sun.management.ThreadMXBean threads)) {
            return;
        }
        VectorRounds x = new VectorRounds();
        for (int i = 0; i < 10; i++) {
            x.router();
        }
        x.drawn(5, 12);
        x.drawn(9, 12);
        long id = Thread.currentThread().getId();
        long ahead = threads.getThreadAllocatedBytes(id);
        for (int i = 0; i < 40; i++) {
            x.told(i % 6);
            x.tried(2);
            x.then(0, 1, 80, 2);
            x.counts(0, 1);
            x.packet(0, 1, 40, 0);
            x.way(0, 1, -1);
            x.row(i % 6, 60);
            x.feed('n');
            x.script();
            x.image();
            x.back();
            x.rounds(1);
        }
        long bytes = threads.getThreadAllocatedBytes(id) - ahead;
        if (bytes > MOST_CALL_BYTES) {
            fault("480 calls made " + bytes + " bytes of objects");
        }
    }
}
