import java.io.IOException;
import java.lang.reflect.Field;
import java.lang.reflect.Method;
import java.lang.reflect.Modifier;
import java.nio.file.Files;
import java.nio.file.Path;
import java.util.Set;
import java.util.TreeSet;
import java.util.regex.Matcher;
import java.util.regex.Pattern;

/** What of ../shared/LANGUAGE.md can be seen in the text and in the compiled classes; run at the root of the checkout. */
public final class LanguageTest {
    private static final Check CHECK = new Check("LanguageTest");
    private static final Path SOURCE = Path.of("src/main/java/SongThatStays.java");
    private static final Set<String> FACE = new TreeSet<>(Set.of("letter/1", "office/0", "song/2", "head/2", "near/1",
            "door/1", "go/2", "get/2", "remedy/2", "loud/1", "hour/0", "hold/3", "have/2", "takes/2", "still/0",
            "most/3", "lasts/1", "from/2", "first/2", "rid/2", "instead/1", "shut/1", "seats/1", "write/3", "row/1",
            "otherwise/2", "judge/0", "seeds/2", "image/0", "on/0", "count/1"));

    public static void main(String[] args) throws IOException {
        String code = codeOf(Files.readString(SOURCE));
        words(code);
        lengths(code);
        face();
        members(SongThatStays.class);
        for (Class<?> inside : SongThatStays.class.getDeclaredClasses()) {
            CHECK.due(inside + " is static", Modifier.isStatic(inside.getModifiers()) ? 1 : 0, 1);
            CHECK.due(inside + " is not public", inside.getModifiers() & (Modifier.PUBLIC | Modifier.PROTECTED), 0);
            members(inside);
        }
        CHECK.due("classes inside", Math.min(12, SongThatStays.class.getDeclaredClasses().length),
                SongThatStays.class.getDeclaredClasses().length);
        CHECK.end();
    }

    /** The text without comments and without what stands in quotes. */
    private static String codeOf(String text) {
        return text.replaceAll("(?s)/\\*.*?\\*/", " ").replaceAll("//[^\n]*", " ")
                .replaceAll("\"[^\"\n]*\"", "\"\"").replaceAll("'[^'\n]+'", "' '");
    }

    private static void words(String code) {
        String[] never = {"\\bthrow\\b", "\\bthrows\\b", "\\btry\\b", "\\bcatch\\b", "\\bsynchronized\\b", "\\bassert\\b",
            "\\bimport\\b", "\\bpackage\\b", "\\bprotected\\b", "\\bvolatile\\b", "\\bvar\\b", "->", "::",
            "static \\{", "Exact\\b", "\\bThread\\b", "nanoTime", "currentTimeMillis", "\\bRandom\\b", "\\bequals\\(",
            "@", "\\binstanceof\\b", "\\benum\\b", "\\brecord\\b", "\\bdouble\\b", "\\bfloat\\b", "\"\" \\+", "\\+ \"\""};
        for (String word : never) {
            Matcher found = Pattern.compile(word).matcher(code);
            CHECK.due("the code has no " + word, found.find() ? 1 : 0, 0);
        }
        Matcher calls = Pattern.compile("\\b(Math|Integer|Long|System|Arrays|String|List|Character)\\.(\\w+)").matcher(code);
        Set<String> allowed = Set.of("Math.min", "Math.max", "Integer.MAX_VALUE", "System.arraycopy");
        while (calls.find()) {
            CHECK.due("the library has " + calls.group(), allowed.contains(calls.group()) ? 1 : 0, 1);
        }
    }

    /** Methods begin and end with the indentation of this project. */
    private static void lengths(String code) {
        Matcher methods = Pattern.compile("(?m)^( {4}| {8})\\w[^\n;=]*\\([^\n;]*\\) \\{\n(?s:.*?)\n\\1\\}").matcher(code);
        int found = 0;
        while (methods.find()) {
            found++;
            long lines = methods.group().lines().count();
            CHECK.due("short enough: " + methods.group().lines().findFirst().get().trim(), Math.min(60, lines), lines);
        }
        CHECK.due("methods are found", found > 80 ? 1 : 0, 1);
    }

    private static void face() {
        Set<String> is = new TreeSet<>();
        for (Method method : SongThatStays.class.getDeclaredMethods()) {
            if (Modifier.isPublic(method.getModifiers())) {
                is.add(method.getName() + "/" + method.getParameterCount());
                CHECK.due(method + " answers an int", method.getReturnType() == int.class ? 1 : 0, 1);
            }
        }
        CHECK.due("the face", is.toString(), FACE.toString());
        CHECK.due("final", SongThatStays.class.getModifiers(), Modifier.PUBLIC | Modifier.FINAL);
        CHECK.due("constructors", SongThatStays.class.getDeclaredConstructors().length, 1);
        CHECK.due("public constructor", SongThatStays.class.getDeclaredConstructors()[0].getModifiers(), Modifier.PUBLIC);
    }

    private static void members(Class<?> type) {
        boolean isOuter = type == SongThatStays.class;
        int fields = 0;
        for (Field field : type.getDeclaredFields()) {
            int modifiers = field.getModifiers();
            fields += Modifier.isStatic(modifiers) ? 0 : 1;
            CHECK.due(field + " is private", Modifier.isPrivate(modifiers) ? 1 : 0, 1);
            CHECK.due(field + " is final if static", Modifier.isStatic(modifiers) && !Modifier.isFinal(modifiers) ? 1 : 0, 0);
        }
        CHECK.due("fields of " + type, Math.min(20, fields), fields);
        for (Method method : type.getDeclaredMethods()) {
            CHECK.due("parameters of " + method, Math.min(7, method.getParameterCount()), method.getParameterCount());
            boolean isOfFace = FACE.stream().anyMatch(name -> name.startsWith(method.getName() + "/"));
            boolean isPublic = Modifier.isPublic(method.getModifiers());
            CHECK.due(method + " bears a name of the face", isOfFace && !(isOuter && isPublic) ? 1 : 0, 0);
            if (isOuter && !isPublic && !method.isSynthetic()) {
                CHECK.due(method + " is private", Modifier.isPrivate(method.getModifiers()) ? 1 : 0, 1);
            }
        }
    }
}
