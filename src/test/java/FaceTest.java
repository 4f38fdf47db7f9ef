import java.io.IOException;
import java.lang.reflect.Constructor;
import java.lang.reflect.Field;
import java.lang.reflect.Method;
import java.lang.reflect.Modifier;
import java.nio.file.Files;
import java.nio.file.Path;
import java.util.Arrays;
import java.util.TreeSet;
import java.util.regex.Pattern;

/** The public face, to the word, and the rules of LANGUAGE.md that can be read off the class or its text. */
public final class FaceTest {
    private static final String SOURCE = "src/main/java/ScapegoatSpur.java";
    private static final String ARGUMENT = "java.lang.IllegalArgumentException";
    private static final String STATE = "java.lang.IllegalStateException";
    private static final String INDEX = "java.lang.IndexOutOfBoundsException";
    private static final String ELEMENT = "java.util.NoSuchElementException";
    private static final String[] FACE = {
        "boolean add(int) throws " + ARGUMENT + "," + STATE, "boolean remove(int)", "boolean contains(int)",
        "int size()", "int rank(int)", "int keyAt(int) throws " + INDEX, "int nodes()", "int bound()", "int height()",
        "int depth(int) throws " + ELEMENT, "int weight(int) throws " + ELEMENT, "int rebuilt()", "int drops()",
        "float averageDepth()", "int depthInTurning(int) throws " + ELEMENT, "int turningRoot() throws " + ELEMENT,
        "int turns()", "int entries()", "int partOf(int) throws " + ELEMENT,
        "int entry(int,int) throws " + ELEMENT + "," + INDEX, "int merges()",
        "boolean addPoint(int,int) throws " + ARGUMENT + "," + STATE, "boolean removePoint(int,int)", "int points()",
        "int pointNodes()", "int pointDepth(int,int) throws " + ELEMENT, "int pointHeight()",
        "int countIn(int,int,int,int) throws " + ARGUMENT, "int nearest(int,int) throws " + ARGUMENT + "," + ELEMENT,
        "int pointsRebuilt()"};
    private static final String[] RULED_OUT = {
        "->", "::", "@[A-Z]", "\\bcatch\\b", "\\bfinally\\b", "\\bsynchronized\\b", "\\bassert\\b", "\\bvar\\b",
        "\\bString\\b", "\\bSystem\\b", "\\bThread\\b", "Exact\\(", "\\bpackage\\b", "static \\{", "\\bprotected\\b",
        "import (?!java\\.util\\.NoSuchElementException;)", "java\\.(?!util\\.NoSuchElementException;)", "[^\\x00-\\x7f]"};

    private static final Checks checks = new Checks("FaceTest");

    public static void main(String[] args) throws IOException {
        face();
        insides();
        text();
        checks.end();
    }

    private static void face() {
        int modifiers = ScapegoatSpur.class.getModifiers();
        checks.that("the class is not public and final", Modifier.isPublic(modifiers) && Modifier.isFinal(modifiers));
        Constructor<?>[] constructors = ScapegoatSpur.class.getDeclaredConstructors();
        checks.due("the number of constructors", constructors.length, 1);
        checks.that("the constructor is another one",
                constructors[0].toGenericString().equals("public ScapegoatSpur()"));
        TreeSet<String> due = new TreeSet<>();
        for (String method : FACE) {
            int name = method.indexOf(' ') + 1;
            due.add("public " + method.substring(0, name) + "ScapegoatSpur." + method.substring(name));
        }
        TreeSet<String> found = new TreeSet<>();
        for (Method method : ScapegoatSpur.class.getDeclaredMethods()) {
            if (!Modifier.isPrivate(method.getModifiers())) {
                found.add(method.toGenericString());
            }
        }
        checks.that("the methods are " + found + ", due are " + due, found.equals(due));
        for (Field field : ScapegoatSpur.class.getDeclaredFields()) {
            checks.that(field + " is not private", Modifier.isPrivate(field.getModifiers()));
        }
    }

    private static void insides() {
        TreeSet<String> publicNames = new TreeSet<>();
        for (String method : FACE) {
            publicNames.add(method.substring(method.indexOf(' ') + 1, method.indexOf('(')));
        }
        Class<?>[] inside = ScapegoatSpur.class.getDeclaredClasses();
        checks.that("there are too many classes", inside.length < 12);
        for (Class<?> one : inside) {
            checks.that(one + " is not private and static",
                    Modifier.isPrivate(one.getModifiers()) && Modifier.isStatic(one.getModifiers()));
            checks.that(one + " has too many fields", one.getDeclaredFields().length <= 20);
            methodsOwnTheirNames(one, publicNames);
            staticFieldsAreFinal(one);
        }
        methodsOwnTheirNames(ScapegoatSpur.class, publicNames);
        staticFieldsAreFinal(ScapegoatSpur.class);
    }

    private static void methodsOwnTheirNames(Class<?> one, TreeSet<String> publicNames) {
        for (Method method : one.getDeclaredMethods()) {
            checks.that(method + " bears the name of a public one",
                    Modifier.isPublic(method.getModifiers()) || !publicNames.contains(method.getName()));
            checks.that(method + " takes too many parameters", method.getParameterCount() <= 7);
        }
    }

    private static void staticFieldsAreFinal(Class<?> one) {
        for (Field field : one.getDeclaredFields()) {
            int modifiers = field.getModifiers();
            checks.that(field + " is static and can change", !Modifier.isStatic(modifiers) || Modifier.isFinal(modifiers));
        }
    }

    private static void text() throws IOException {
        String text = Files.readString(Path.of(SOURCE));
        for (String ruledOut : RULED_OUT) {
            checks.that("the text has " + ruledOut, !Pattern.compile(ruledOut).matcher(text).find());
        }
        String[] headings = {"keys", "the scapegoat tree", "the turning tree", "the parts", "points"};
        int from = 0;
        for (String heading : headings) {
            int at = text.indexOf("// ---- " + heading + "\n", from);
            checks.that("the heading " + heading + " is not there, or not in " + Arrays.toString(headings), at >= from);
            from = Math.max(from, at);
        }
    }
}
