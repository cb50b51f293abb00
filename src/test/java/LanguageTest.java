import java.io.IOException;
import java.util.ArrayList;
import java.util.HashMap;
import java.util.HashSet;
import java.util.List;
import java.util.Map;
import java.util.Set;
import java.util.regex.Matcher;
import java.util.regex.Pattern;

/** The rules of LANGUAGE.md that a look at the compiled classes can find, by their numbers there. */
public final class LanguageTest {
    /** Of rule 4 what a class without lists needs at most. */
    private static final Set<String> LIBRARY = Set.of(
        "java/lang/String.length", "java/lang/String.charAt", "java/lang/String.isEmpty", "java/lang/String.equals",
        "java/lang/String.indexOf", "java/lang/String.substring", "java/lang/String.toCharArray",
        "java/lang/StringBuilder.append", "java/lang/StringBuilder.charAt", "java/lang/StringBuilder.setCharAt",
        "java/lang/StringBuilder.setLength", "java/lang/StringBuilder.deleteCharAt",
        "java/lang/StringBuilder.reverse", "java/lang/StringBuilder.length", "java/lang/StringBuilder.toString",
        "java/lang/System.arraycopy", "java/util/Arrays.copyOf", "java/util/Arrays.copyOfRange",
        "java/util/Arrays.fill");
    private static final Set<String> EXCEPTIONS = Set.of("java/lang/IllegalStateException",
        "java/lang/IllegalArgumentException", "java/lang/IndexOutOfBoundsException",
        "java/lang/ArithmeticException", "java/lang/UnsupportedOperationException",
        "java/util/NoSuchElementException", "java/lang/RuntimeException");
    /** The methods that the document gives an exception. */
    private static final Set<String> THROWING = Set.of("house", "deed", "row");
    private static final Pattern PARAMETER = Pattern.compile("\\[*(L[^;]*;|[A-Z])");
    private static final int MOST_PARAMETERS = 7;
    private static final int MOST_LINES = 60;
    private static final int DEEPEST = 8;
    private static final int MOST_CLASSES = 12;
    private static final int MOST_FIELDS = 20;

    private static final List<ClassFile> classes = new ArrayList<>();
    private static final Map<String, ClassFile.Body> bodies = new HashMap<>();
    private static final Map<String, Integer> depths = new HashMap<>();

    public static void main(String[] args) throws IOException {
        for (Class<?> type : NoonGun.class.getNestMembers()) {
            ClassFile file = ClassFile.of(type);
            classes.add(file);
            for (ClassFile.Body body : file.methods) {
                bodies.put(idOf(file, body), body);
            }
        }
        Check.due("rule 11: so many classes", classes.size() <= MOST_CLASSES, true);
        for (ClassFile file : classes) {
            lookAtFields(file);
            for (ClassFile.Body body : file.methods) {
                lookAt(idOf(file, body), body);
            }
        }
        Check.end();
    }

    private static String idOf(ClassFile file, ClassFile.Body body) {
        return file.name + "." + body.name + ":" + body.type;
    }

    private static boolean isOwn(String name) {
        return name.equals("NoonGun") || name.startsWith("NoonGun$");
    }

    // ---- fields

    private static void lookAtFields(ClassFile file) {
        int changing = 0;
        for (ClassFile.Member field : file.fields) {
            String at = file.name + "." + field.name;
            if ((field.flags & ClassFile.STATIC) == 0) {
                changing++;
                Check.due("rule 3: type of " + at, isType(field.type), true);
            } else {
                Check.due("rule 5: final " + at, (field.flags & ClassFile.FINAL) != 0, true);
                Check.due("rule 5: type of " + at, field.type.matches("[IJZC]|\\[[IJCB]|Ljava/lang/String;"), true);
            }
        }
        Check.due("rule 11: so many fields of " + file.name, changing <= MOST_FIELDS, true);
    }

    /** A number, a boolean, a text, a list, one of its own; rows of numbers by two, of its own by one. */
    private static boolean isType(String type) {
        return type.matches("\\[{0,2}[IJSBCZDF]|\\[?LNoonGun(\\$\\w+)?;"
            + "|Ljava/lang/(String|StringBuilder|Integer);|Ljava/util/(List|ArrayList);");
    }

    // ---- methods

    private static void lookAt(String id, ClassFile.Body body) {
        boolean makes = body.name.equals("<init>");
        boolean ofTheClass = body.name.equals("<clinit>");
        lookAtTypes(id, body.type);
        int lines = Math.max(0, body.lastLine - body.firstLine + 1);
        // A constructor's lines reach up to the fields that it fills.
        Check.due("rule 11: lines of " + id, makes || ofTheClass || lines <= MOST_LINES, true);
        Check.due("rule 11: how deep calls go from " + id + ": " + depth(id, new HashSet<>()),
            depth(id, new HashSet<>()) <= DEEPEST, true);
        Check.due("rule 6: nothing is caught in " + id, body.caught, 0);
        for (ClassFile.Step step : body.steps) {
            lookAtStep(id, body, step, makes, ofTheClass);
        }
    }

    private static void lookAtTypes(String id, String type) {
        int close = type.indexOf(')');
        Matcher parameter = PARAMETER.matcher(type.substring(1, close));
        int many = 0;
        while (parameter.find()) {
            many++;
            Check.due("rule 3: " + parameter.group() + " of " + id, isType(parameter.group()), true);
        }
        Check.due("rule 11: parameters of " + id, many <= MOST_PARAMETERS, true);
        String answer = type.substring(close + 1);
        Check.due("rule 3: answer of " + id, answer.equals("V") || isType(answer), true);
    }

    private static void lookAtStep(String id, ClassFile.Body body, ClassFile.Step step, boolean makes,
            boolean ofTheClass) {
        String owner = step.what.replaceAll("\\..*", "");
        switch (step.code) {
            case ClassFile.PUTSTATIC:
                Check.due("rule 5: no other static state, in " + id, ofTheClass, true);
                break;
            case ClassFile.INVOKEDYNAMIC:
                Check.due("rules 2 and 10: no lambda, no texts joined by +, in " + id, true, false);
                break;
            case ClassFile.NEW:
                Check.due("rule 6 or 12: new " + step.what + " in " + id,
                    EXCEPTIONS.contains(step.what) || makes && isOwn(step.what), true);
                break;
            case ClassFile.NEWARRAY:
            case ClassFile.ANEWARRAY:
            case ClassFile.MULTIANEWARRAY:
                Check.due("no call makes a row: " + id, makes || ofTheClass, true);
                break;
            case ClassFile.ATHROW:
                Check.due("rule 6: a throw in " + id, THROWING.contains(body.name) && isOwn(id.split("\\.")[0]), true);
                break;
            case ClassFile.CHECKCAST:
            case ClassFile.MONITORENTER:
                Check.due("no cast, nothing synchronized: " + id, true, false);
                break;
            default:
                if (step.code >= ClassFile.INVOKEVIRTUAL && step.code <= ClassFile.INVOKEINTERFACE) {
                    lookAtCall(id, step, owner, makes);
                }
        }
    }

    private static void lookAtCall(String id, ClassFile.Step step, String owner, boolean makes) {
        String call = step.what.replaceAll(":.*", "");
        if (isOwn(owner)) {
            ClassFile.Body called = bodies.get(step.what);
            Check.due("rule 4: " + call + " is there", called != null, true);
            boolean canBeAnother = called != null && !called.name.equals("<init>")
                && (called.flags & (ClassFile.PRIVATE | ClassFile.STATIC | ClassFile.FINAL)) == 0;
            Check.due("rule 12: " + call + " could be another one, in " + id, makes && canBeAnother, false);
        } else if (call.endsWith(".<init>")) {
            Check.due("rule 4 or 6: new " + owner + " in " + id,
                owner.equals("java/lang/Object") || EXCEPTIONS.contains(owner), true);
        } else {
            boolean reckons = owner.matches("java/lang/(Math|Integer|Long)") && !call.endsWith("Exact");
            Check.due("rule 4: " + call + " in " + id, reckons || LIBRARY.contains(call), true);
        }
    }

    /** How many calls of the class stand open at once at most, this one with them. */
    private static int depth(String id, Set<String> open) {
        Integer known = depths.get(id);
        if (known != null) {
            return known;
        }
        if (!open.add(id)) {
            Check.due("rule 8: a call that comes round to " + id, true, false);
            return 0;
        }
        int most = 0;
        for (ClassFile.Step step : bodies.get(id).steps) {
            boolean calls = step.code >= ClassFile.INVOKEVIRTUAL && step.code <= ClassFile.INVOKEINTERFACE;
            if (calls && bodies.containsKey(step.what)) {
                most = Math.max(most, depth(step.what, open));
            }
        }
        open.remove(id);
        depths.put(id, most + 1);
        return most + 1;
    }
}
