import java.io.IOException;
import java.lang.reflect.Constructor;
import java.lang.reflect.Field;
import java.lang.reflect.Method;
import java.lang.reflect.Modifier;
import java.nio.charset.StandardCharsets;
import java.nio.file.Files;
import java.nio.file.Path;
import java.util.Arrays;
import java.util.HashMap;
import java.util.Map;
import java.util.Set;
import java.util.TreeMap;
import java.util.TreeSet;
import java.util.regex.Matcher;
import java.util.regex.Pattern;
import java.util.stream.Collectors;

/** The class's face as the document has it, and what LANGUAGE.md forbids in its file. */
public final class FaceTest {
    private static final Checks C = new Checks("FaceTest");
    private static final String SOURCE = "src/main/java/PaperPays.java";
    private static final String[] FACE = {
        "int type(long,int)", "int clear()", "int rules()", "int rule(int)", "int person(int,int)",
        "int worth(int,int)", "int odds(int,int)", "int go(int)", "int now(int)", "int board(int)",
        "int high(int)", "int gain(int)", "int again()", "int renew(int)", "int revive(int)",
        "int would(int,int,int)", "int lot(int)", "int ride(int,int)", "int rests(int,int,int)",
        "int hold(int,int,int)", "int out(int)", "int clue(int)", "int fit(int,int)", "int say(int,int)",
        "int said(int,int)", "int truest()", "int mark(int,int)", "int keep(int)", "int back(int)",
        "int count(int)", "long trace()"};
    private static final String[] FORBIDDEN = {
        "import ", "throw", "try ", "catch", "synchronized", "assert", "->", "::", "Exact", "System.out",
        "Random", "Thread", "hashCode", "toString", "equals(", "static {", "HashMap", "LinkedList"};

    private static final Pattern CALL = Pattern.compile("(\\w+)\\(");
    private static final Set<String> NO_CALLS = Set.of("if", "for", "while", "switch", "return");

    private FaceTest() {
    }

    public static void main(String[] args) throws IOException {
        constants();
        methods();
        fields();
        nested();
        source();
        callsAreFlat(bodies());
        C.end();
    }

    private static void constants() {
        C.due("BAD", PaperPays.BAD, -1);
        C.due("STATE", PaperPays.STATE, -2);
        C.due("FULL", PaperPays.FULL, -3);
        C.due("NONE", PaperPays.NONE, -9);
        C.due("NO", PaperPays.NO, -1000000);
    }

    private static String told(Method m) {
        String kinds = Arrays.stream(m.getParameterTypes()).map(Class::getName).collect(Collectors.joining(","));
        return m.getReturnType().getName() + " " + m.getName() + "(" + kinds + ")";
    }

    private static void truth(String of, boolean stands) {
        C.due(of, stands ? 1 : 0, 1);
    }

    private static void methods() {
        Set<String> open = new TreeSet<>();
        Set<String> openNames = new TreeSet<>();
        Set<String> otherNames = new TreeSet<>();
        for (Method m : PaperPays.class.getDeclaredMethods()) {
            if (Modifier.isPrivate(m.getModifiers())) {
                otherNames.add(m.getName());
            } else {
                truth("public: " + m, Modifier.isPublic(m.getModifiers()));
                open.add(told(m));
                openNames.add(m.getName());
            }
        }
        for (Class<?> inside : PaperPays.class.getDeclaredClasses()) {
            for (Method m : inside.getDeclaredMethods()) {
                otherNames.add(m.getName());
            }
        }
        truth("the methods are the face's: " + open, open.equals(new TreeSet<>(Arrays.asList(FACE))));
        otherNames.retainAll(openNames);
        truth("no other method has a public one's name: " + otherNames, otherNames.isEmpty());
        Constructor<?>[] made = PaperPays.class.getDeclaredConstructors();
        truth("one public constructor", made.length == 1 && Modifier.isPublic(made[0].getModifiers())
            && made[0].getParameterCount() == 0);
        truth("public and final", Modifier.isPublic(PaperPays.class.getModifiers())
            && Modifier.isFinal(PaperPays.class.getModifiers()));
    }

    private static void fields() {
        Set<String> open = new TreeSet<>();
        for (Field f : PaperPays.class.getDeclaredFields()) {
            if (!Modifier.isPrivate(f.getModifiers())) {
                open.add(f.getName());
                truth("a constant: " + f, Modifier.isStatic(f.getModifiers()) && Modifier.isFinal(f.getModifiers())
                    && Modifier.isPublic(f.getModifiers()));
            }
        }
        truth("the fields are the face's", open.equals(new TreeSet<>(Arrays.asList("BAD", "STATE", "FULL", "NONE", "NO"))));
    }

    private static void nested() {
        Class<?>[] all = PaperPays.class.getDeclaredClasses();
        truth("twelve classes at most", all.length < 12);
        for (Class<?> inside : all) {
            truth("static: " + inside, Modifier.isStatic(inside.getModifiers()));
            truth("not open: " + inside, !Modifier.isPublic(inside.getModifiers())
                && !Modifier.isProtected(inside.getModifiers()));
        }
        for (Class<?> any : all) {
            long fields = Arrays.stream(any.getDeclaredFields())
                .filter(f -> !Modifier.isStatic(f.getModifiers())).count();
            truth("twenty fields at most: " + any, fields <= 20);
            for (Field f : any.getDeclaredFields()) {
                truth("no static state: " + f, !Modifier.isStatic(f.getModifiers()) || Modifier.isFinal(f.getModifiers()));
            }
            for (Method m : any.getDeclaredMethods()) {
                truth("seven parameters at most: " + m, m.getParameterCount() <= 7);
            }
        }
    }

    /** Each method of the file by its name (those of one name together), by the file's own layout. */
    private static Map<String, String> bodies() throws IOException {
        Map<String, String> bodies = new TreeMap<>();
        String name = "";
        String end = "";
        int lines = 0;
        for (String line : Files.readAllLines(Path.of(SOURCE), StandardCharsets.UTF_8)) {
            int depth = line.length() - line.stripLeading().length();
            if (end.isEmpty() && (depth == 4 || depth == 8) && line.matches("[^=;]*\\(.*\\) \\{")
                    && !line.matches(" *(if|for|while|switch|\\}).*")) {
                name = line.replaceAll("\\(.*", "").replaceAll(".* ", "");
                end = " ".repeat(depth) + "}";
                lines = 0;
            } else if (line.equals(end)) {
                truth("sixty lines at most: " + name, lines < 60);
                end = "";
            } else if (!end.isEmpty()) {
                lines++;
                bodies.merge(name, line + "\n", String::concat);
            }
        }
        return bodies;
    }

    private static void callsAreFlat(Map<String, String> bodies) {
        truth("methods found", bodies.size() > 80);
        Map<String, Integer> depths = new HashMap<>();
        for (String name : bodies.keySet()) {
            int depth = depthOf(name, bodies, depths, "");
            truth("calls go eight deep at most: " + name + " " + depth, depth <= 8);
        }
    }

    /** How many calls stand open at most below a method, its own and the library's counted, too. */
    private static int depthOf(String name, Map<String, String> bodies, Map<String, Integer> depths, String open) {
        if (!bodies.containsKey(name)) {
            return 1;
        }
        truth("no recursion: " + open + " " + name, !(open + " ").contains(" " + name + " "));
        if (!depths.containsKey(name)) {
            // Stands here until the method is done, so that a recursion ends.
            depths.put(name, 1);
            int below = 0;
            Matcher call = CALL.matcher(bodies.get(name));
            while (call.find()) {
                if (!NO_CALLS.contains(call.group(1))) {
                    below = Math.max(below, depthOf(call.group(1), bodies, depths, open + " " + name));
                }
            }
            depths.put(name, below + 1);
        }
        return depths.get(name);
    }

    private static void source() throws IOException {
        String text = Files.readString(Path.of(SOURCE), StandardCharsets.UTF_8);
        truth("signs 1 to 127", text.chars().allMatch(c -> c > 0 && c < 128));
        for (String word : FORBIDDEN) {
            truth("the source has no '" + word + "'", !text.contains(word));
        }
    }
}
