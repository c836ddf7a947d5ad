import java.io.IOException;
import java.lang.reflect.Method;
import java.lang.reflect.Modifier;
import java.nio.file.Files;
import java.nio.file.Path;
import java.util.ArrayList;
import java.util.List;
import java.util.regex.Matcher;
import java.util.regex.Pattern;
import java.util.stream.Stream;

/** README.md says how to use the class: its example is run here, and it names each call and each test. */
public final class ReadmeTest {
    private static final int NONE = VoiceHouse.NONE;
    private static final Path README = Path.of("README.md");
    private static final Path TESTS = Path.of("src/test/java");

    private static int wrong = 0;

    public static void main(String[] args) throws IOException {
        example();
        exampleIsTheReadmes();
        namesEachCall();
        namesEachTest();
        System.out.println("README: " + wrong + " faults");
        if (wrong != 0) {
            System.exit(1);
        }
    }

    /** Line by line the README's example, with the answers that stand there behind "//". */
    private static void example() {
        // the README's from here
        VoiceHouse house = new VoiceHouse();
        int ann = house.record(0, 1);
        int phone = house.record(1, 1);
        int asked = house.record(1, VoiceHouse.NONE);
        int bob = house.record(0, 2);
        for (int place = 0; place < 6; place++) {
            house.tone(ann, place, 40);
            house.tone(phone, place, 45);
            house.tone(asked, place, 46);
            house.tone(bob, place, 50);
        }
        due(house.told(asked, 10), 46);
        due(house.shift(1, 0), 5);
        due(house.hidden(2, 0), true);
        due(house.score(ann, phone), 0);
        due(house.score(ann, asked), 6);
        due(house.count(1), 1);
        due(house.band(6, 1), 2);
        due(house.block(6, 0), 6);
        due(house.odds(6, 0), 1);
        due(house.odds(6, 2), 0);
        due(house.odds(6, 4), 0);
        due(house.segment(ann), 1);
        due(house.segment(asked), 2);
        due(house.segment(bob), 3);
        due(house.voice(1), 0);
        due(house.voices(), 2);
        due(house.spare(), 46);
        due(house.limit(5), true);
        due(house.voices(), 3);
        due(house.clear(), 3);
        due(house.lined(asked, 0), 0);
        due(house.rank(asked, 2), 1);
        due(house.set(1 << 1), true);
        due(house.lined(asked, 2), NONE);
        due(house.test(ann, phone), 1);
        due(house.right(0), 1);
        due(house.know(phone, VoiceHouse.NONE), true);
        due(house.score(ann, phone), 30);
        due(house.record(4, 1), NONE);
        // the README's to here
    }

    private static void exampleIsTheReadmes() throws IOException {
        String own = Files.readString(TESTS.resolve("ReadmeTest.java"));
        String ownCode = between(own, "// the README's from here\n", "// the README's to here\n");
        List<String> ownLines = ownCode.lines().map(String::strip).filter(line -> !line.isEmpty()).toList();
        List<String> readmeLines = new ArrayList<>();
        between(Files.readString(README), "```java\n", "```\n").lines().map(String::strip)
                .filter(line -> !line.isEmpty()).forEach(line -> readmeLines.add(asTested(line)));
        ask(ownLines.equals(readmeLines), "the README's example is\n" + String.join("\n", readmeLines));
    }

    /** A call with an answer behind it is one to ask; of other lines the code alone. */
    private static String asTested(String line) {
        Matcher call = Pattern.compile("(house\\..*);\\s*// (-?\\w+)(:.*)?").matcher(line);
        return call.matches() ? "due(" + call.group(1) + ", " + call.group(2) + ");" : line.replaceAll("\\s*//.*", "");
    }

    private static String between(String text, String from, String to) {
        int start = text.indexOf(from);
        int end = start < 0 ? -1 : text.indexOf(to, start + from.length());
        ask(end >= 0, "not found: " + from.strip() + " .. " + to.strip());
        return end < 0 ? "" : text.substring(start + from.length(), end);
    }

    private static void namesEachCall() throws IOException {
        String readme = Files.readString(README);
        for (Method method : VoiceHouse.class.getDeclaredMethods()) {
            if (Modifier.isPublic(method.getModifiers())) {
                ask(readme.contains("`" + method.getName() + "`"), "the README doesn't name " + method.getName());
                ask(readme.contains("house." + method.getName() + "("), "the README doesn't use " + method.getName());
            }
        }
    }

    private static void namesEachTest() throws IOException {
        String readme = Files.readString(README);
        ask(readme.contains(".ci/run"), "the README doesn't say how the tests are run");
        try (Stream<Path> files = Files.list(TESTS)) {
            files.map(file -> file.getFileName().toString().replace(".java", ""))
                    .forEach(name -> ask(readme.contains("| `" + name + "` |"), "the README doesn't tell of " + name));
        }
    }

    private static void due(int got, int want) {
        ask(got == want, "answered " + got + ", the README says " + want);
    }

    private static void due(boolean got, boolean want) {
        ask(got == want, "answered " + got + ", the README says " + want);
    }

    private static void ask(boolean holds, String what) {
        if (!holds) {
            wrong++;
            System.out.println(what);
        }
    }
}
