import java.io.IOException;
import java.lang.reflect.Constructor;
import java.lang.reflect.Field;
import java.lang.reflect.Method;
import java.lang.reflect.Modifier;
import java.nio.file.Files;
import java.nio.file.Path;
import java.util.Set;
import java.util.TreeSet;
import java.util.regex.Matcher;
import java.util.regex.Pattern;

/** The class's face is the document's and nothing more, and its source keeps to the words of LANGUAGE.md. */
public final class FaceTest {
    private static final Set<String> METHODS = Set.of("append(int)", "clearText()", "syntaxError()", "load()",
        "addRule(int,int,int)", "removeRule(int,int)", "moveRule(int,int,int)", "setAlgorithm(int,int)",
        "setTarget(int,int,int,int)", "flipEffect(int,int)", "copyOldToNew()", "undo()", "ruleCount(int)",
        "effectOf(int,int)", "targetOf(int,int,int)", "algorithmOf(int)", "decide(int,int)", "decisionCount(int,int)",
        "applicableRules(int,int)", "gainCount()", "lossCount()", "gainCountOf(int,int)", "nextGain(int)",
        "nextLoss(int)", "transitionCount(int,int)", "grantedShareBits(int)", "isRedundant(int,int)",
        "witness(int,int)", "irredundantCore(int)", "leastRemoval()", "historySize()");
    private static final Set<String> CONSTANTS = Set.of("INVALID_ARGUMENT", "LIMIT_REACHED", "NO_CHANGE", "NOT_FOUND",
        "PERMIT", "DENY", "NOT_APPLICABLE", "INDETERMINATE", "FIRST_APPLICABLE", "DENY_OVERRIDES",
        "PERMIT_OVERRIDES", "ONLY_ONE", "MAJORITY");
    private static final String[] BARRED = {"throw", "try", "catch", "synchronized", "assert", "package", "Float",
        "Double", "Object", "Exception", "System.out", "->", "::", "Random", "Thread", "hashCode", "toString"};
    private static final Set<String> LIBRARY = Set.of("Arrays.fill", "Integer.bitCount", "Integer.lowestOneBit",
        "Integer.numberOfLeadingZeros", "System.arraycopy");

    public static void main(String[] args) throws IOException {
        Check.finish(face(), classesInside(), words());
    }

    private static String signature(Method method) {
        StringBuilder types = new StringBuilder();
        for (Class<?> type : method.getParameterTypes()) {
            types.append(types.length() == 0 ? "" : ",").append(type.getSimpleName());
        }
        return method.getName() + "(" + types + ")";
    }

    private static Check face() {
        Check check = new Check("the face");
        int kind = PolicyComparer.class.getModifiers();
        check.holds("the class is public and final", Modifier.isPublic(kind) && Modifier.isFinal(kind));
        Set<String> methods = new TreeSet<>();
        for (Method method : PolicyComparer.class.getDeclaredMethods()) {
            if (!Modifier.isPrivate(method.getModifiers())) {
                methods.add(signature(method));
                check.holds(method + " is a public int method", Modifier.isPublic(method.getModifiers())
                    && !Modifier.isStatic(method.getModifiers()) && method.getReturnType() == int.class);
            } else {
                check.holds(method + " has a name of its own", isOwnName(method.getName()));
            }
        }
        check.sameText("the methods", methods.toString(), new TreeSet<>(METHODS).toString());
        Set<String> constants = new TreeSet<>();
        for (Field field : PolicyComparer.class.getDeclaredFields()) {
            if (!Modifier.isPrivate(field.getModifiers())) {
                constants.add(field.getName());
                check.due(field + "'s modifiers", field.getModifiers(), Modifier.PUBLIC | Modifier.STATIC | Modifier.FINAL);
            }
        }
        check.sameText("the constants", constants.toString(), new TreeSet<>(CONSTANTS).toString());
        Constructor<?>[] constructors = PolicyComparer.class.getDeclaredConstructors();
        check.due("constructors", constructors.length, 1);
        check.due("the constructor's parameters", constructors[0].getParameterCount(), 0);
        check.holds("the constructor is public", Modifier.isPublic(constructors[0].getModifiers()));
        return check;
    }

    private static boolean isOwnName(String name) {
        return METHODS.stream().noneMatch(method -> method.startsWith(name + "("));
    }

    private static Check classesInside() {
        Check check = new Check("the classes inside");
        Class<?>[] inside = PolicyComparer.class.getDeclaredClasses();
        check.holds("at most twelve classes", inside.length < 12);
        for (Class<?> type : inside) {
            check.holds(type + " is private and static",
                Modifier.isStatic(type.getModifiers()) && Modifier.isPrivate(type.getModifiers()));
            for (Method method : type.getDeclaredMethods()) {
                check.holds(method + " has a name of its own", isOwnName(method.getName()));
                check.holds(method + " has few parameters", method.getParameterCount() <= 7);
            }
            for (Field field : type.getDeclaredFields()) {
                check.holds(field + " is final if static",
                    !Modifier.isStatic(field.getModifiers()) || Modifier.isFinal(field.getModifiers()));
            }
        }
        return check;
    }

    private static Check words() throws IOException {
        Check check = new Check("the source");
        String source = Files.readString(Path.of("src/main/java/PolicyComparer.java"));
        String code = source.replaceAll("(?s)/\\*.*?\\*/", "").replaceAll("//.*", "");
        for (String word : BARRED) {
            String edge = Character.isLetter(word.charAt(0)) ? "\\b" : "";
            check.holds("no " + word, !code.matches("(?s).*" + edge + Pattern.quote(word) + edge + ".*"));
        }
        Matcher used = Pattern.compile("\\b(Arrays|Integer|Long|Math|System|String|Character|Boolean)\\.\\w+").matcher(code);
        while (used.find()) {
            check.holds(used.group() + " is in the rules' library", LIBRARY.contains(used.group()));
        }
        check.holds("no import but Arrays", !code.replace("import java.util.Arrays;", "").contains("import "));
        check.holds("plain signs alone", source.chars().allMatch(sign -> sign == '\n' || sign >= 32 && sign < 127));
        return check;
    }
}
