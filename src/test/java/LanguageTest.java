import java.io.IOException;
import java.lang.reflect.Field;
import java.lang.reflect.Method;
import java.lang.reflect.Modifier;
import java.nio.file.Files;
import java.nio.file.Path;
import java.util.ArrayList;
import java.util.List;
import java.util.Map;
import java.util.Set;
import java.util.TreeMap;
import java.util.TreeSet;
import java.util.regex.Matcher;
import java.util.regex.Pattern;

/** What of ../shared/LANGUAGE.md can be seen in the text and in the compiled classes; run at the root of the checkout. */
public final class LanguageTest {
    private static final Check CHECK = new Check("LanguageTest");
    private static final Path SOURCE = Path.of("src/main/java/SongThatStays.java");
    private static final Set<String> FACE = new TreeSet<>(Set.of("letter/1", "office/0", "song/2", "head/2", "near/1",
            "door/1", "go/2", "get/2", "remedy/2", "loud/1", "hour/0", "hold/3", "have/2", "takes/2", "still/0",
            "most/3", "lasts/1", "from/2", "first/2", "rid/2", "instead/1", "shut/1", "seats/1", "write/3", "row/1",
            "otherwise/2", "judge/0", "seeds/2", "image/0", "on/0", "count/1"));

    public static void main(String[] args) throws IOException {
        String code = codeOf(Files.readString(SOURCE));
        words(code);
        lengths(code);
        objects(code);
        depths(code);
        face();
        members(SongThatStays.class);
        for (Class<?> inside : SongThatStays.class.getDeclaredClasses()) {
            CHECK.due(inside + " is static", Modifier.isStatic(inside.getModifiers()) ? 1 : 0, 1);
            CHECK.due(inside + " is not public", inside.getModifiers() & (Modifier.PUBLIC | Modifier.PROTECTED), 0);
            members(inside);
        }
        CHECK.due("classes inside", Math.min(12, SongThatStays.class.getDeclaredClasses().length),
                SongThatStays.class.getDeclaredClasses().length);
        CHECK.end();
    }

    /** The text without comments and without what stands in quotes. */
    private static String codeOf(String text) {
        return text.replaceAll("(?s)/\\*.*?\\*/", " ").replaceAll("//[^\n]*", " ")
                .replaceAll("\"[^\"\n]*\"", "\"\"").replaceAll("'[^'\n]+'", "' '");
    }

    private static void words(String code) {
        String[] never = {"\\bthrow\\b", "\\bthrows\\b", "\\btry\\b", "\\bcatch\\b", "\\bsynchronized\\b", "\\bassert\\b",
            "\\bimport\\b", "\\bpackage\\b", "\\bprotected\\b", "\\bvolatile\\b", "\\bvar\\b", "->", "::",
            "static \\{", "Exact\\b", "\\bThread\\b", "nanoTime", "currentTimeMillis", "\\bRandom\\b", "\\bequals\\(",
            "@", "\\binstanceof\\b", "\\benum\\b", "\\brecord\\b", "\\bdouble\\b", "\\bfloat\\b", "\"\" \\+", "\\+ \"\""};
        for (String word : never) {
            Matcher found = Pattern.compile(word).matcher(code);
            CHECK.due("the code has no " + word, found.find() ? 1 : 0, 0);
        }
        Matcher calls = Pattern.compile("\\b(Math|Integer|Long|System|Arrays|String|List|Character)\\.(\\w+)").matcher(code);
        Set<String> allowed = Set.of("Math.min", "Math.max", "System.arraycopy");
        while (calls.find()) {
            CHECK.due("the library has " + calls.group(), allowed.contains(calls.group()) ? 1 : 0, 1);
        }
    }

    /** Methods begin and end with the indentation of this project. */
    private static void lengths(String code) {
        Matcher methods = Pattern.compile("(?m)^( {4}| {8})\\w[^\n;=]*\\([^\n;]*\\) \\{\n(?s:.*?)\n\\1\\}").matcher(code);
        int found = 0;
        while (methods.find()) {
            found++;
            long lines = methods.group().lines().count();
            CHECK.due("short enough: " + methods.group().lines().findFirst().get().trim(), Math.min(60, lines), lines);
        }
        CHECK.due("methods are found", found > 80 ? 1 : 0, 1);
    }

    /** Objects and arrays are made beside the fields alone, so that no call makes one. */
    private static void objects(String code) {
        Matcher made = Pattern.compile("(?m)^.*\\bnew\\b.*$").matcher(code);
        while (made.find()) {
            boolean isField = made.group().matches(" +private final [\\w\\[\\]]+ \\w+ = new \\w+[(\\[]\\w*[)\\]];");
            CHECK.due("made beside a field: " + made.group().trim(), isField ? 1 : 0, 1);
        }
    }

    /** No call comes back to itself, and calls go at most eight deep; what calls what is read from the text. */
    private static void depths(String code) {
        Map<String, String> bodies = new TreeMap<>();
        String type = "SongThatStays";
        String[] lines = code.split("\n");
        for (int i = 0; i < lines.length; i++) {
            Matcher inside = Pattern.compile("^    private static final class (\\w+) .*").matcher(lines[i]);
            Matcher method = Pattern.compile("^( {4}| {8})\\w[^;=]*?(\\w+)\\([^;]*\\) \\{").matcher(lines[i]);
            if (inside.matches()) {
                type = inside.group(1);
            } else if (method.matches()) {
                List<String> body = new ArrayList<>();
                for (i++; i < lines.length && !lines[i].equals(method.group(1) + "}"); i++) {
                    body.add(lines[i]);
                }
                String owner = method.group(1).length() == 4 ? "SongThatStays" : type;
                bodies.put(owner + "." + method.group(2), String.join("\n", body));
            }
        }
        CHECK.due("methods are found", bodies.size() > 80 ? 1 : 0, 1);
        for (String method : bodies.keySet()) {
            int deep = depth(method, bodies, 0);
            CHECK.due("calls from " + method + " go deep", Math.min(8, deep), deep);
        }
    }

    private static int depth(String method, Map<String, String> bodies, int above) {
        if (above > 20) {
            return 1000;
        }
        int deepest = 0;
        Matcher call = Pattern.compile("(?:(\\w+)\\.)?\\b(\\w+)\\(").matcher(bodies.get(method));
        while (call.find()) {
            String called = calledBy(method, call.group(1), call.group(2), bodies);
            if (called != null) {
                deepest = Math.max(deepest, depth(called, bodies, above + 1));
            }
        }
        return deepest + 1;
    }

    private static String calledBy(String method, String on, String name, Map<String, String> bodies) {
        Map<String, String> types = Map.of("now", "Office", "mind", "Office", "kept", "Office", "doors", "Doors",
                "songs", "Songs", "heads", "Heads", "text", "Text");
        String own = method.substring(0, method.indexOf('.') + 1) + name;
        String outer = "SongThatStays." + name;
        if (on != null) {
            String other = types.getOrDefault(on, "library") + "." + name;
            return bodies.containsKey(other) ? other : null;
        }
        return bodies.containsKey(own) ? own : bodies.containsKey(outer) ? outer : null;
    }

    private static void face() {
        Set<String> is = new TreeSet<>();
        for (Method method : SongThatStays.class.getDeclaredMethods()) {
            if (Modifier.isPublic(method.getModifiers())) {
                is.add(method.getName() + "/" + method.getParameterCount());
                CHECK.due(method + " answers an int", method.getReturnType() == int.class ? 1 : 0, 1);
            }
        }
        CHECK.due("the face", is.toString(), FACE.toString());
        CHECK.due("final", SongThatStays.class.getModifiers(), Modifier.PUBLIC | Modifier.FINAL);
        CHECK.due("constructors", SongThatStays.class.getDeclaredConstructors().length, 1);
        CHECK.due("public constructor", SongThatStays.class.getDeclaredConstructors()[0].getModifiers(), Modifier.PUBLIC);
    }

    private static void members(Class<?> type) {
        boolean isOuter = type == SongThatStays.class;
        int fields = 0;
        for (Field field : type.getDeclaredFields()) {
            int modifiers = field.getModifiers();
            fields += Modifier.isStatic(modifiers) ? 0 : 1;
            boolean isPlain = Set.of("int", "boolean", "int[]", "java.lang.String").contains(field.getType().getTypeName());
            boolean isOwn = field.getType().getEnclosingClass() == SongThatStays.class;
            CHECK.due(field + " is of a type that is listed", isPlain || isOwn ? 1 : 0, 1);
            CHECK.due(field + " is private", Modifier.isPrivate(modifiers) ? 1 : 0, 1);
            CHECK.due(field + " is final if static", Modifier.isStatic(modifiers) && !Modifier.isFinal(modifiers) ? 1 : 0, 0);
        }
        CHECK.due("fields of " + type, Math.min(20, fields), fields);
        for (Method method : type.getDeclaredMethods()) {
            CHECK.due("parameters of " + method, Math.min(7, method.getParameterCount()), method.getParameterCount());
            boolean isOfFace = FACE.stream().anyMatch(name -> name.startsWith(method.getName() + "/"));
            boolean isPublic = Modifier.isPublic(method.getModifiers());
            CHECK.due(method + " bears a name of the face", isOfFace && !(isOuter && isPublic) ? 1 : 0, 0);
            if (isOuter && !isPublic && !method.isSynthetic()) {
                CHECK.due(method + " is private", Modifier.isPrivate(method.getModifiers()) ? 1 : 0, 1);
            }
        }
    }
}
