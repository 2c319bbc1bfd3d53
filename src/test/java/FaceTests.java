import java.lang.reflect.Constructor;
import java.lang.reflect.Field;
import java.lang.reflect.Member;
import java.lang.reflect.Method;
import java.lang.reflect.Modifier;
import java.util.Arrays;
import java.util.List;
import java.util.Set;
import java.util.TreeSet;
import java.util.stream.Collectors;

/** The public face of ../shared/DOC.md, whole, and nothing beside it (../shared/LANGUAGE.md, rules 1 and 5). */
public final class FaceTests {
    private static final String NO_PERSON = "IndexOutOfBoundsException";
    private static final String NO_SUCH = "NoSuchElementException";
    private static final String REFUSED = "UnsupportedOperationException";
    private static final String BAD_STATE = "IllegalStateException";
    private static final String BAD_NUMBER = "IllegalArgumentException";
    private static final String NO_MEAN = "ArithmeticException";

    private static final Set<String> FACE = new TreeSet<>(List.of(
        signature("int found()", REFUSED),
        signature("int born(int)", NO_PERSON, REFUSED),
        signature("int graft(int, int)", NO_PERSON, REFUSED),
        signature("int cut(int)", NO_PERSON, REFUSED),
        signature("int personOf(int, int)", NO_PERSON, BAD_NUMBER),
        signature("int elder(int, int, boolean)", NO_PERSON, NO_SUCH),
        signature("int common(int, int, boolean)", NO_PERSON, NO_SUCH),
        signature("int degree(int, int)", NO_PERSON, NO_SUCH),
        signature("int leaps(int, int)", NO_PERSON, NO_SUCH),
        signature("int farthest(int)", NO_PERSON),
        signature("int descendant(int, int)", NO_PERSON, NO_SUCH),
        signature("int marry(int, int)", NO_PERSON, REFUSED),
        signature("int part(int)", NO_PERSON, REFUSED),
        signature("int quarrel(int, int)", NO_PERSON, REFUSED),
        signature("int quarrelAt(int, boolean)", NO_SUCH),
        signature("int wouldEnd(int, int)", NO_PERSON, BAD_STATE),
        signature("int houses()"),
        signature("int housesAgain()"),
        signature("int give(int, int)", NO_PERSON, BAD_NUMBER, REFUSED),
        signature("int die(int)", NO_PERSON, REFUSED),
        signature("int heir(int)", NO_PERSON, BAD_STATE),
        signature("int ranked(int)", NO_SUCH),
        signature("int line(int)", NO_PERSON),
        signature("char character(int)", NO_PERSON),
        signature("int append(char)", BAD_STATE),
        signature("int run()", BAD_NUMBER, REFUSED),
        signature("int errorPosition()"),
        signature("int refusal(boolean)", NO_SUCH),
        signature("int account(int)", BAD_NUMBER),
        signature("boolean isWell()"),
        signature("double meanDepth()", NO_MEAN),
        signature("float livingShare()", NO_MEAN),
        signature("int undo()", BAD_STATE),
        signature("int save()"),
        signature("int restore()", BAD_STATE)));

    private static int wrong = 0;

    private static String signature(String start, String... exceptions) {
        return exceptions.length == 0 ? start : start + " throws " + String.join(", ", exceptions);
    }

    private static void due(String what, Object want, Object got) {
        if (!want.equals(got)) {
            wrong++;
            System.out.println(what + ": is " + got + ", due is " + want);
        }
    }

    private static String namesOf(Class<?>[] types) {
        return Arrays.stream(types).map(Class::getSimpleName).collect(Collectors.joining(", "));
    }

    private static String signatureOf(Method method) {
        String start = method.getReturnType().getSimpleName() + " " + method.getName()
            + "(" + namesOf(method.getParameterTypes()) + ")";
        String exceptions = namesOf(method.getExceptionTypes());
        return exceptions.isEmpty() ? start : start + " throws " + exceptions;
    }

    private static List<Method> methodsOf(Class<?> type) {
        return Arrays.stream(type.getDeclaredMethods()).filter(method -> !method.isSynthetic()).toList();
    }

    private static boolean isPrivate(Member member) {
        return Modifier.isPrivate(member.getModifiers());
    }

    public static void main(String[] args) {
        theClass();
        theMethods();
        theFields();
        theClassesInside();
        System.out.println(wrong == 0 ? "the face is as due" : wrong + " parts of the face are not as due");
        if (wrong != 0) {
            System.exit(1);
        }
    }

    private static void theClass() {
        due("modifiers", "public final", Modifier.toString(FamilyOaks.class.getModifiers()));
        due("class above", Object.class, FamilyOaks.class.getSuperclass());
        due("interfaces", 0, FamilyOaks.class.getInterfaces().length);
        due("package", "", FamilyOaks.class.getPackageName());
        Constructor<?>[] constructors = FamilyOaks.class.getDeclaredConstructors();
        due("constructors", 1, constructors.length);
        due("constructor", "public FamilyOaks()", constructors[0].toString());
    }

    private static void theMethods() {
        Set<String> open = new TreeSet<>();
        Set<String> openNames = new TreeSet<>();
        for (Method method : methodsOf(FamilyOaks.class)) {
            if (!isPrivate(method)) {
                due("modifiers of " + method.getName(), "public", Modifier.toString(method.getModifiers()));
                open.add(signatureOf(method));
                openNames.add(method.getName());
            }
        }
        due("face", String.join("\n", FACE), String.join("\n", open));
        for (Method method : methodsOf(FamilyOaks.class)) {
            boolean isHidden = isPrivate(method);
            due(method.getName() + " is private beside a public one", false,
                isHidden && openNames.contains(method.getName()));
        }
    }

    private static void theFields() {
        for (Field field : FamilyOaks.class.getDeclaredFields()) {
            due(field.getName() + " is private", true, isPrivate(field));
        }
    }

    private static void theClassesInside() {
        for (Class<?> inside : FamilyOaks.class.getDeclaredClasses()) {
            int modifiers = inside.getModifiers();
            due(inside.getName() + " is static", true, Modifier.isStatic(modifiers));
            due(inside.getName() + " is open", false,
                Modifier.isPublic(modifiers) || Modifier.isProtected(modifiers));
            staticsAreFinal(inside);
        }
        staticsAreFinal(FamilyOaks.class);
    }

    private static void staticsAreFinal(Class<?> type) {
        for (Field field : type.getDeclaredFields()) {
            boolean isChangeable = Modifier.isStatic(field.getModifiers()) && !Modifier.isFinal(field.getModifiers());
            due(type.getName() + "." + field.getName() + " is static and not final", false, isChangeable);
        }
    }
}
