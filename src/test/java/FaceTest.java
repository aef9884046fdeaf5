import java.io.IOException;
import java.lang.reflect.Constructor;
import java.lang.reflect.Field;
import java.lang.reflect.Method;
import java.lang.reflect.Modifier;
import java.nio.file.Files;
import java.nio.file.Path;
import java.util.Map;
import java.util.Set;
import java.util.TreeMap;
import java.util.TreeSet;
import java.util.regex.Matcher;
import java.util.regex.Pattern;

/** The class shows the document's face and no more, and its text keeps to the rules that a text can show. */
public final class FaceTest {
    private static final Set<String> METHODS = Set.of("node()", "arc(int,int,int)", "weight(int,int)", "turn(int)",
            "clear()", "told(int)", "least(int,int)", "way(int,int,int)", "within(int,int,int)", "rounds(int)",
            "falling()", "ring(int)", "height(int)", "lifted(int)", "spare(int)", "order(int)", "far(int)",
            "late(int)", "whole()", "critical(int)");
    private static final Map<String, Integer> CONSTANTS = Map.of("NONE", -1, "NO_WAY", 1000000000,
            "BOTTOMLESS", -1000000000, "UNKNOWN", -1000000001, "OUTSIDE", -1000000002, "STATE", -1000000003,
            "ROOM", -1000000004);
    private static final Map<String, Set<String>> HEADINGS = Map.of(
            "---- ways", Set.of("least", "way", "within", "rounds", "falling", "ring"),
            "---- heights", Set.of("height", "lifted", "spare"),
            "---- without rings", Set.of("order", "far", "late", "whole", "critical"));
    /** What LANGUAGE.md's rules 2, 4, 5, 6 and 13 rule out and the text alone can show. */
    private static final String[] RULED_OUT = {
        "::", "\\bfinally\\b", "\\bsynchronized\\b", "\\bassert\\b", "\\bpackage\\b", "\\bgetMessage\\b",
        "\\bimport\\s+(?!java\\.util\\.(ArrayList|List|Arrays|Iterator|NoSuchElementException)\\s*;)", "Exact\\s*\\(",
        "\\bRandom\\b", "\\bThread\\b", "System\\.(?!arraycopy)", "\\bstatic\\s*\\{", "\\b(Throwable|Error|Exception)\\b",
        "\\b(ArrayIndexOutOfBounds|NullPointer|ClassCast|NegativeArraySize|ArrayStore)Exception\\b"
    };

    private static int wrong = 0;

    private static void check(boolean holds, String what) {
        if (!holds) {
            wrong++;
            System.out.println(what);
        }
    }

    public static void main(String[] args) throws IOException, IllegalAccessException {
        checkClass();
        checkMethods();
        checkFields();
        checkInnerClasses();
        checkText();
        checkHeadings();
        System.out.println(wrong == 0 ? "the face is as written" : wrong + " faults in the face");
        if (wrong != 0) {
            System.exit(1);
        }
    }

    private static void checkClass() {
        int modifiers = SignedPaths.class.getModifiers();
        check(Modifier.isPublic(modifiers) && Modifier.isFinal(modifiers), "the class is not public and final");
        Constructor<?>[] constructors = SignedPaths.class.getDeclaredConstructors();
        check(constructors.length == 1 && constructors[0].getParameterCount() == 0
                && Modifier.isPublic(constructors[0].getModifiers()), "not one public constructor without parameters");
        check(constructors[0].getExceptionTypes().length == 0, "the constructor throws");
        // What a class above it or an interface would add is no part of the face.
        check(SignedPaths.class.getSuperclass() == Object.class && SignedPaths.class.getInterfaces().length == 0
                && SignedPaths.class.getTypeParameters().length == 0, "the class is not one by itself");
    }

    private static void checkMethods() {
        Set<String> shown = new TreeSet<>();
        Set<String> names = new TreeSet<>();
        for (Method method : SignedPaths.class.getDeclaredMethods()) {
            if (Modifier.isPublic(method.getModifiers())) {
                shown.add(signature(method));
                names.add(method.getName());
                check(method.getReturnType() == int.class, signature(method) + " does not answer an int");
                check(!Modifier.isStatic(method.getModifiers()), signature(method) + " is static");
                check(method.getExceptionTypes().length == 0, signature(method) + " throws");
            }
        }
        check(shown.equals(METHODS), "the public methods are " + shown);
        for (Method method : SignedPaths.class.getDeclaredMethods()) {
            if (!Modifier.isPublic(method.getModifiers())) {
                check(Modifier.isPrivate(method.getModifiers()), method.getName() + " is neither public nor private");
                check(!names.contains(method.getName()), method.getName() + " bears the name of a public one");
            }
        }
    }

    private static String signature(Method method) {
        StringBuilder text = new StringBuilder(method.getName()).append('(');
        for (int i = 0; i < method.getParameterCount(); i++) {
            text.append(i == 0 ? "" : ",").append(method.getParameterTypes()[i].getName());
        }
        return text.append(')').toString();
    }

    private static void checkFields() throws IllegalAccessException {
        Map<String, Integer> shown = new TreeMap<>();
        for (Field field : SignedPaths.class.getDeclaredFields()) {
            int modifiers = field.getModifiers();
            if (Modifier.isPublic(modifiers)) {
                boolean isConstant =
                        field.getType() == int.class && Modifier.isStatic(modifiers) && Modifier.isFinal(modifiers);
                check(isConstant, field.getName() + " is not a constant int");
                shown.put(field.getName(), isConstant ? field.getInt(null) : 0);
            } else {
                check(Modifier.isPrivate(modifiers), field.getName() + " is neither public nor private");
            }
            check(!Modifier.isStatic(modifiers) || Modifier.isFinal(modifiers), field.getName() + " is not final");
        }
        check(shown.equals(CONSTANTS), "the public constants are " + shown);
        for (int number : CONSTANTS.values()) {
            check(isConstant(number), number + " is none of the constants");
        }
    }

    private static void checkInnerClasses() {
        Class<?>[] inside = SignedPaths.class.getDeclaredClasses();
        check(inside.length <= 11, "too many classes");
        for (Class<?> one : inside) {
            int modifiers = one.getModifiers();
            check(Modifier.isStatic(modifiers), one.getName() + " is not static");
            check(!Modifier.isPublic(modifiers) && !Modifier.isProtected(modifiers), one.getName() + " is shown");
            check(countFields(one) <= 20, one.getName() + " has too many fields");
        }
    }

    private static int countFields(Class<?> one) {
        int count = 0;
        for (Field field : one.getDeclaredFields()) {
            boolean isStatic = Modifier.isStatic(field.getModifiers());
            check(!isStatic || Modifier.isFinal(field.getModifiers()), field.getName() + " is not final");
            count += isStatic ? 0 : 1;
        }
        return count;
    }

    private static void checkText() throws IOException {
        String text = Files.readString(Path.of("src/main/java/SignedPaths.java"));
        String code = text.replaceAll("(?s)/\\*.*?\\*/", "").replaceAll("//[^\n]*", "");
        for (String word : RULED_OUT) {
            check(!Pattern.compile(word).matcher(code).find(), "the text has " + word);
        }
        String withoutCases = code.replaceAll("\\b(case\\b[^;:{}]*?|default\\s*)->", "");
        check(!withoutCases.contains("->"), "the text has a lambda");
    }

    /** The document's headings stand in the text, each ahead of its calls and of no others between. */
    private static void checkHeadings() throws IOException {
        String text = Files.readString(Path.of("src/main/java/SignedPaths.java"));
        for (String heading : HEADINGS.keySet()) {
            int place = text.indexOf(heading);
            check(place >= 0, "the text has no heading " + heading);
            Set<String> calls = HEADINGS.get(heading);
            Set<String> behind = new TreeSet<>();
            Matcher call = Pattern.compile("\\bpublic\\s+int\\s+(\\w+)\\s*\\(").matcher(text.substring(Math.max(place, 0)));
            while (behind.size() < calls.size() && call.find()) {
                behind.add(call.group(1));
            }
            check(behind.equals(calls), heading + " stands ahead of " + behind);
        }
    }

    /** Compiles only where all seven are constants to the compiler and differ from one another. */
    private static boolean isConstant(int number) {
        switch (number) {
            case SignedPaths.NONE:
            case SignedPaths.NO_WAY:
            case SignedPaths.BOTTOMLESS:
            case SignedPaths.UNKNOWN:
            case SignedPaths.OUTSIDE:
            case SignedPaths.STATE:
            case SignedPaths.ROOM:
                return true;
            default:
                return false;
        }
    }
}
