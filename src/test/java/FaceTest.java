import java.io.IOException;
import java.lang.reflect.Constructor;
import java.lang.reflect.Field;
import java.lang.reflect.Method;
import java.lang.reflect.Modifier;
import java.nio.file.Files;
import java.nio.file.Path;
import java.util.Arrays;
import java.util.Set;
import java.util.TreeSet;
import java.util.regex.Matcher;
import java.util.regex.Pattern;

/** The class's face as the document has it, and those rules of LANGUAGE.md that can be read off the class. */
public final class FaceTest {
    private static final String SOURCE = "src/main/java/VoiceHouse.java";
    private static final String DOCUMENT = "../shared/DOC.md";
    private static final int CALLS = 22;
    private static final int MOST_LINES = 60;
    private static final int MOST_FIELDS = 20;
    private static final int MOST_CLASSES = 12;

    private static final Set<String> FACE = new TreeSet<>();
    private static final Set<String> CONSTANTS = new TreeSet<>();

    private static int wrong = 0;

    public static void main(String[] args) throws IOException, IllegalAccessException {
        readTheDocument();
        faceIsTheDocuments();
        constantsAreTheDocuments();
        restIsPrivate();
        classesInside();
        sourceKeepsToTheLanguage();
        methodsAreShort();
        System.out.println("face and language: " + wrong + " faults");
        if (wrong != 0) {
            System.exit(1);
        }
    }

    /** The face stands in the document's one block of Java; names of parameters are no part of it. */
    private static void readTheDocument() throws IOException {
        String text = Files.readString(Path.of(DOCUMENT));
        Matcher block = Pattern.compile("(?s)```java\n(.*?)```").matcher(text);
        String face = block.find() ? block.group(1) : "";
        ask(face.contains("public final class VoiceHouse {") && face.contains("public VoiceHouse();"), "no face found");
        Matcher calls = Pattern.compile("public (\\w+ \\w+)\\((.*?)\\);").matcher(face);
        while (calls.find()) {
            FACE.add(calls.group(1) + "(" + calls.group(2).replaceAll(" \\w+(, )?", ",").replaceAll(",$", "") + ")");
        }
        Matcher constants = Pattern.compile("public static final (\\w+ \\w+ = .*?);").matcher(face);
        while (constants.find()) {
            CONSTANTS.add(constants.group(1));
        }
        ask(FACE.size() == CALLS && CONSTANTS.size() == 1, "read in the document: " + FACE + CONSTANTS);
    }

    private static void constantsAreTheDocuments() throws IllegalAccessException {
        Set<String> found = new TreeSet<>();
        for (Field field : VoiceHouse.class.getDeclaredFields()) {
            if (Modifier.isPublic(field.getModifiers()) && Modifier.isStatic(field.getModifiers())) {
                ask(Modifier.isFinal(field.getModifiers()), "not final: " + field);
                found.add(field.getType() + " " + field.getName() + " = " + field.get(null));
            }
        }
        ask(found.equals(CONSTANTS), "the constants are " + found);
    }

    private static void faceIsTheDocuments() {
        Set<String> found = new TreeSet<>();
        for (Method method : VoiceHouse.class.getDeclaredMethods()) {
            if (!Modifier.isPrivate(method.getModifiers())) {
                ask(Modifier.isPublic(method.getModifiers()) && !Modifier.isStatic(method.getModifiers()),
                        "not public: " + method);
                found.add(method.getReturnType() + " " + method.getName()
                        + Arrays.toString(method.getParameterTypes()).replace("[", "(").replace("]", ")")
                                .replace(" ", ""));
            }
        }
        ask(found.equals(FACE), "the face is " + found);
        Constructor<?>[] made = VoiceHouse.class.getDeclaredConstructors();
        ask(made.length == 1 && made[0].getParameterCount() == 0 && Modifier.isPublic(made[0].getModifiers()),
                "the constructor");
        ask(Modifier.isFinal(VoiceHouse.class.getModifiers()), "the class is final");
    }

    private static void restIsPrivate() {
        Set<String> faceNames = new TreeSet<>();
        FACE.forEach(line -> faceNames.add(line.replaceAll(".* |\\(.*", "")));
        for (Method method : VoiceHouse.class.getDeclaredMethods()) {
            ask(!Modifier.isPrivate(method.getModifiers()) || !faceNames.contains(method.getName()),
                    "a private method bears a public name: " + method);
        }
        for (Field field : VoiceHouse.class.getDeclaredFields()) {
            boolean constant = field.getName().equals("NONE");
            ask(constant == Modifier.isPublic(field.getModifiers()), "field " + field);
            ask(constant || Modifier.isPrivate(field.getModifiers()), "field " + field);
        }
    }

    private static void classesInside() {
        Class<?>[] inside = VoiceHouse.class.getDeclaredClasses();
        ask(inside.length < MOST_CLASSES, "classes: " + inside.length);
        for (Class<?> one : inside) {
            ask(Modifier.isStatic(one.getModifiers()), "not static: " + one);
            ask(one.getDeclaredClasses().length == 0, "classes inside of " + one);
            countFields(one);
        }
        countFields(VoiceHouse.class);
    }

    private static void countFields(Class<?> one) {
        long fields = Arrays.stream(one.getDeclaredFields())
                .filter(field -> !Modifier.isStatic(field.getModifiers())).count();
        ask(fields <= MOST_FIELDS, one + " has " + fields + " fields");
        for (Field field : one.getDeclaredFields()) {
            ask(!Modifier.isStatic(field.getModifiers()) || Modifier.isFinal(field.getModifiers()), "static " + field);
        }
        for (Method method : one.getDeclaredMethods()) {
            ask(method.getParameterCount() <= 7, "parameters of " + method);
        }
    }

    private static String codeAlone() throws IOException {
        return Files.readString(Path.of(SOURCE)).replaceAll("(?s)/\\*.*?\\*/", "").replaceAll("//.*", "");
    }

    private static void sourceKeepsToTheLanguage() throws IOException {
        String code = codeAlone();
        Matcher words = Pattern.compile("\\b(throw|throws|try|catch|synchronized|assert|package|new Object|System\\.(?!"
                + "arraycopy)|Thread|Random|Exception|Error|static \\{|[A-Za-z]+Exact)\\b|->|::").matcher(code);
        while (words.find()) {
            ask(false, "not in the language: " + words.group());
        }
        Matcher imports = Pattern.compile("import ([^;]*);").matcher(code);
        while (imports.find()) {
            ask(imports.group(1).equals("java.util.Arrays"), "import " + imports.group(1));
        }
        // All rows are made in constructors, so that no call takes of the room.
        Matcher made = Pattern.compile("\\n(.*)\\bnew ").matcher(code);
        while (made.find()) {
            ask(made.group(1).matches(" +\\w+ = "), "made outside of a constructor: " + made.group());
        }
        Files.readString(Path.of(SOURCE)).chars().forEach(sign -> ask(sign < 128, "sign " + sign));
    }

    /** A method begins four or eight columns in with a brace at its line's end, and ends there too. */
    private static void methodsAreShort() throws IOException {
        Matcher methods = Pattern.compile("(?m)^( {4}| {8})(?!private static final class)\\w[^\\n=;]*\\) \\{\\n(?s:.*?)\\n\\1\\}")
                .matcher(codeAlone());
        int found = 0;
        while (methods.find()) {
            found++;
            long lines = methods.group().lines().count();
            ask(lines <= MOST_LINES, lines + " lines: " + methods.group().lines().findFirst().orElse(""));
        }
        ask(found > FACE.size(), "methods found: " + found);
    }

    private static void ask(boolean holds, String what) {
        if (!holds) {
            wrong++;
            System.out.println(what);
        }
    }
}
