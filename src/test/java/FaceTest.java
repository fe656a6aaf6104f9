import java.io.IOException;
import java.lang.reflect.Field;
import java.lang.reflect.Method;
import java.lang.reflect.Modifier;
import java.nio.file.Files;
import java.nio.file.Path;
import java.util.ArrayList;
import java.util.Arrays;
import java.util.List;
import java.util.TreeSet;
import java.util.regex.Matcher;
import java.util.regex.Pattern;

/** The public face is the document's and no more; and no call throws, whatever it is given. */
public final class FaceTest {
    private static final String[] FACE = {
        "line(int, int)", "pull(int)", "plug(int)", "at(int, int)", "wide(int, int)", "fixture(int, int)",
        "group(int, int)", "member(int, int, int)", "memberAt(int, int)", "asks(int, int)", "trace(int)",
        "about(int, int)", "patch(int, int, int)", "unpatch(int)", "firm(int, boolean)", "point(int, int, int)",
        "curve(int, int)", "bend(int, int, int)", "entry(int, int, int, int, int)", "list(int, int, int)",
        "load(int, int)", "go(int)", "stop(int)", "release(int)", "master(int, int)", "merge(int, int, boolean)",
        "value(int, int, int)", "playback(int, int)", "limit(int, int)", "heat(int)", "over(int)",
        "blackout(boolean)", "tick(int)", "found(int)", "digest()", "replay()", "back(int)", "told(int)"};
    private static final int[] EDGES = {Integer.MIN_VALUE, -2, -1, 0, 1, 2, 3, 4, 5, 6, 8, 12, 16, 24, 51, 64, 101, 256,
        65536, 1000001, Integer.MAX_VALUE};

    public static void main(String[] args) throws IOException, ReflectiveOperationException {
        Tally.due("NONE", CueBoard.NONE, -1);
        Tally.due("BAD", CueBoard.BAD, -2);
        Tally.due("NO", CueBoard.NO, -3);
        Tally.due("FULL", CueBoard.FULL, -4);
        int modifiers = CueBoard.class.getModifiers();
        Tally.due("public and final", Modifier.isPublic(modifiers) && Modifier.isFinal(modifiers) ? 1 : 0, 1);
        Tally.due("one constructor", CueBoard.class.getDeclaredConstructors().length, 1);
        methods();
        fields();
        document();
        edges();
        Tally.end();
    }

    private static String nameOf(Method method) {
        StringBuilder all = new StringBuilder(method.getName()).append('(');
        for (Class<?> given : method.getParameterTypes()) {
            all.append(all.charAt(all.length() - 1) == '(' ? "" : ", ").append(given);
        }
        return all.append(')').toString();
    }

    private static void methods() {
        TreeSet<String> due = new TreeSet<>(Arrays.asList(FACE));
        TreeSet<String> names = new TreeSet<>();
        for (String each : FACE) {
            names.add(each.substring(0, each.indexOf('(')));
        }
        int shown = 0;
        for (Method method : CueBoard.class.getDeclaredMethods()) {
            if (Modifier.isPrivate(method.getModifiers())) {
                Tally.due("private, named as a public one: " + method, names.contains(method.getName()) ? 1 : 0, 0);
                continue;
            }
            shown++;
            boolean plain = Modifier.isPublic(method.getModifiers()) && !Modifier.isStatic(method.getModifiers());
            Tally.due("of the face: " + method, plain && due.contains(nameOf(method)) && method.getReturnType() == int.class ? 1 : 0, 1);
        }
        Tally.due("methods of the face", shown, FACE.length);
        for (Class<?> inside : CueBoard.class.getDeclaredClasses()) {
            for (Method method : inside.getDeclaredMethods()) {
                Tally.due("inside, named as a public one: " + method, names.contains(method.getName()) ? 1 : 0, 0);
            }
        }
    }

    private static void fields() {
        int shown = 0;
        for (Field field : CueBoard.class.getDeclaredFields()) {
            if (!Modifier.isPrivate(field.getModifiers())) {
                shown++;
                Tally.due("a constant: " + field, Modifier.isStatic(field.getModifiers()) && Modifier.isFinal(field.getModifiers()) ? 1 : 0, 1);
            }
        }
        Tally.due("constants of the face", shown, 4);
        for (Class<?> inside : CueBoard.class.getDeclaredClasses()) {
            Tally.due("static: " + inside, Modifier.isStatic(inside.getModifiers()) && !Modifier.isPublic(inside.getModifiers()) ? 1 : 0, 1);
        }
    }

    /** FACE is what the document shows, and the program tells its parts as the document does. */
    private static void document() throws IOException {
        Path path = Path.of(System.getProperty("shared", "../shared"), "DOC.md");
        if (!Files.isReadable(path)) {
            System.out.println("no document at " + path + ": the face is not compared with it");
            return;
        }
        String text = Files.readString(path);
        List<String> shown = new ArrayList<>();
        Matcher heads = Pattern.compile("(?m)^    public int (\\w+)\\(([^)]*)\\);$").matcher(text);
        while (heads.find()) {
            shown.add(heads.group(1) + "(" + heads.group(2).replaceAll("\\b(int|boolean) \\w+", "$1") + ")");
        }
        Tally.due("the document's face is " + shown, shown.equals(Arrays.asList(FACE)) ? 1 : 0, 1);
        List<String> parts = new ArrayList<>();
        Matcher said = Pattern.compile("(?m)^Ahead of the calls (.*) the interface says: (.*)\\.$").matcher(text);
        while (said.find()) {
            parts.add(said.group(2) + ": " + said.group(1).replace("`", ""));
        }
        List<String> told = partsOf(Files.readAllLines(Path.of("src/main/java/CueBoard.java")));
        Tally.due("the program's parts " + told + " are " + parts, told.equals(parts) && parts.size() == 7 ? 1 : 0, 1);
    }

    /** Each comment that begins a part of the program's face, with the calls behind it. */
    private static List<String> partsOf(List<String> program) {
        List<String> parts = new ArrayList<>();
        Pattern head = Pattern.compile("    public int (\\w+)\\(.*");
        for (String line : program) {
            Matcher matcher = head.matcher(line);
            if (line.startsWith("    // ---- ")) {
                parts.add(line.substring("    // ".length()));
            } else if (matcher.matches() && !parts.isEmpty()) {
                String part = parts.remove(parts.size() - 1);
                parts.add(part + (part.contains(":") ? ", " : ": ") + matcher.group(1));
            }
        }
        return parts;
    }

    /** Every call with every pair of edges, on a board that is new and on one that has a bit of all. */
    private static void edges() throws ReflectiveOperationException {
        for (Method method : CueBoard.class.getDeclaredMethods()) {
            if (!Modifier.isPublic(method.getModifiers())) {
                continue;
            }
            CueBoard bare = new CueBoard();
            CueBoard full = someBoard();
            int n = method.getParameterCount();
            for (int i = 0; i < EDGES.length * EDGES.length; i++) {
                Object[] given = new Object[n];
                for (int k = 0; k < n; k++) {
                    int edge = EDGES[k == 0 ? i % EDGES.length : k == 1 ? i / EDGES.length : (i * (k + 3)) % EDGES.length];
                    given[k] = method.getParameterTypes()[k] == boolean.class ? (Object) (edge > 0) : (Object) edge;
                }
                method.invoke(bare, given);
                method.invoke(full, given);
                full.tick(1);
            }
            Tally.due("no throw of " + method.getName(), 1, 1);
        }
    }

    private static CueBoard someBoard() {
        CueBoard x = new CueBoard();
        for (int l = 0; l < 3; l++) {
            x.line(l, 10 * l);
        }
        for (int f = 0; f < 8; f++) {
            x.fixture(f % 4, 13 * f);
            x.patch(f, f / 2, f);
            x.bend(f, f % 3, f % 4);
        }
        x.group(0, 4);
        x.member(8, 0, 3);
        x.member(8, 3, 2);
        x.group(0, 3);
        x.member(9, 1, 8);
        x.point(0, 5, 0);
        x.point(0, 50, 0x7FC00000);
        x.point(1, 3, 0xFF7FFFFF);
        x.point(1, 6, 0x7F7FFFFF);
        for (int cue = 0; cue < 4; cue++) {
            x.entry(cue, 9, cue % 3, 40 * cue, cue);
            x.list(cue, cue, 1);
            x.list(cue, 3 - cue, 1);
            x.load(cue, cue);
            x.go(cue);
        }
        x.limit(2, 5);
        x.tick(2);
        return x;
    }
}
