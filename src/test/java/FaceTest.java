import java.io.IOException;
import java.lang.reflect.Constructor;
import java.lang.reflect.Field;
import java.lang.reflect.Member;
import java.lang.reflect.Method;
import java.lang.reflect.Modifier;
import java.nio.file.Files;
import java.nio.file.Path;
import java.util.Arrays;
import java.util.Set;
import java.util.TreeSet;
import java.util.regex.Matcher;
import java.util.regex.Pattern;

/** The public face of the document, and nothing beside it that others could see. */
public final class FaceTest {
    private static final String[] METHODS = {
        "int sign(int)", "boolean end(int)", "int houses()", "int deeds()", "int winds()", "int damps()",
        "int rule()", "int house(int,int)", "int deed(int,int)", "int sheet(int,int,int,int)", "int days(int)",
        "int buys(int)", "int hauls(int,int)", "int moves(int,int,int)", "int takes(int,int)", "int hill(int,int)",
        "int week()", "int undo()", "int order()", "int clashes()", "int span()", "int lane(int)", "int ahead(int)",
        "int quiet()", "int lasts()", "int fewest()", "int longest()", "int best()", "int middle()",
        "int holds(int)", "int hands()", "int echo(int)", "int together()", "int heard(int,int)", "int forget()",
        "int fits()", "int asks()", "int menders(int)", "int apart()", "int misfires(int,int,int)",
        "int forts(int,int)", "int law()", "int rests(int)", "int years(int,int)", "boolean keep(int)",
        "boolean again(int)", "int count(int)", "long row(int)",
    };

    private static final Set<String> IMPORTS = Set.of("java.util.Arrays", "java.util.ArrayList", "java.util.List",
        "java.util.Iterator", "java.util.NoSuchElementException");

    public static void main(String[] args) throws IOException {
        Check.due("the class is final", Modifier.isFinal(NoonGun.class.getModifiers()), true);
        constructors();
        methods();
        fields();
        source();
        Check.end();
    }

    private static boolean isSeen(Member member) {
        return !Modifier.isPrivate(member.getModifiers()) && !member.isSynthetic();
    }

    private static void constructors() {
        int seen = 0;
        for (Constructor<?> constructor : NoonGun.class.getDeclaredConstructors()) {
            seen += isSeen(constructor) ? 1 : 0;
            Check.due("constructor's parameters", constructor.getParameterCount(), 0);
            Check.due("constructor is public", Modifier.isPublic(constructor.getModifiers()), true);
        }
        Check.due("constructors", seen, 1);
    }

    private static void methods() {
        Set<String> due = new TreeSet<>(Arrays.asList(METHODS));
        Set<String> names = new TreeSet<>();
        for (String method : METHODS) {
            names.add(method.replaceAll(".* |\\(.*", ""));
        }
        for (Method method : NoonGun.class.getDeclaredMethods()) {
            String types = Arrays.toString(Arrays.stream(method.getParameterTypes()).map(Class::getName).toArray());
            String face = method.getReturnType() + " " + method.getName() + types.replaceAll(" ", "")
                .replace('[', '(').replace(']', ')');
            if (isSeen(method)) {
                Check.due("is of the face: " + face, due.remove(face), true);
                Check.due("is public: " + face, Modifier.isPublic(method.getModifiers()), true);
            } else {
                Check.due("bears no name of the face: " + face, names.contains(method.getName()), false);
            }
        }
        Check.due("missing " + due, due.size(), 0);
    }

    private static void fields() {
        for (Field field : NoonGun.class.getDeclaredFields()) {
            Check.due("is seen: " + field.getName(), isSeen(field), field.getName().equals("NONE"));
        }
    }

    /** What LANGUAGE.md rules out and a look at the text can find. */
    private static void source() throws IOException {
        String text = Files.readString(Path.of("src/main/java/NoonGun.java"));
        text = text.replaceAll("(?s)/\\*.*?\\*/|//[^\n]*", "");
        String withoutArrows = "(case [^;{}]*?|\\bdefault\\s*)->";
        text = text.replaceAll(withoutArrows, "$1:");
        String[] never = {
            "->", "::", "\\bfinally\\b", "\\bsynchronized\\b", "\\bassert\\b", "\\bpackage\\b",
            "\\bprotected\\b", "[^\\x00-\\x7f]", "\\bRandom\\b", "currentTime|nanoTime", "Exact\\(",
            "catch \\([^)]*(Throwable|\\bException|Error|NullPointer|ArrayIndex|ClassCast|NegativeArray|ArrayStore)",
        };
        for (String pattern : never) {
            Matcher matcher = Pattern.compile(pattern).matcher(text);
            Check.due("the program has no " + pattern, matcher.find(), false);
        }
        Matcher imports = Pattern.compile("import ([^;]*);").matcher(text);
        while (imports.find()) {
            Check.due("import of " + imports.group(1), IMPORTS.contains(imports.group(1)), true);
        }
    }
}
