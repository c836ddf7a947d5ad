import java.util.ArrayList;
import java.util.Arrays;
import java.util.List;
import java.util.Random;
import java.util.function.Consumer;

/**
 * "What is refused changes nothing": each refused call of each promise, in an empty, an ordinary, an almost full and a
 * full house, and behind it all that can be asked, at once and when more has come. And asking changes nothing; and no
 * call throws.
 */
public final class RefusalTest {
    private static final int NONE = Caller.NONE;
    private static final int LEAST = Integer.MIN_VALUE;
    private static final int MOST = Integer.MAX_VALUE;
    // Times 6 (the places of a RECORDING) this one wraps around to 2.
    private static final int WRAPS = 715827883;
    private static final String[] NAMES = {"record", "tone", "know", "set", "limit", "shift", "hidden", "score", "band",
        "block", "odds", "segment", "clear", "voice", "voices", "spare", "lined", "rank", "test", "right", "told", "count"};

    private record Call(String name, int... a) {
        @Override
        public String toString() {
            return name + Arrays.toString(a);
        }
    }

    /** What is refused, and what is answered then. */
    private record Refusal(int answer, Call call) {
    }

    /** What is built first; how many RECORDINGS it has; and which calls come later. */
    private record Scene(String name, int recordings, Consumer<Caller> build, List<Call> later) {
    }

    public static void main(String[] args) {
        refusedInScene(new Scene("empty", 0, x -> { }, laterCalls(0)), List.of());
        refusedInScene(new Scene("ordinary", 7, RefusalTest::buildOrdinary, laterCalls(7)), List.of(
                new Call("segment", 0), new Call("segment", 5), new Call("segment", 2), new Call("segment", 4),
                new Call("test", 0, 5), new Call("test", 5, 0)));
        refusedInScene(new Scene("almost full", 29, x -> buildFull(x, 29, 7, 59), laterCalls(29)), List.of(
                new Call("segment", 29), new Call("segment", 28), new Call("test", 1, 1)));
        refusedInScene(new Scene("full", 30, x -> buildFull(x, 30, 8, 60), laterCalls(30)), List.of(
                new Call("record", 0, 0), new Call("record", 3, NONE), new Call("segment", 0), new Call("segment", 29),
                new Call("test", 0, 1), new Call("test", 1, 0), new Call("test", 28, 29)));
        noCallThrows();
        Caller.end();
    }

    private static void buildOrdinary(Caller x) {
        x.heard(0, 1, 40, 42, 44, 46, 48, 50);
        x.heard(0, 2, 60, 55, 50, NONE, 40, 35);
        x.heard(1, 1, 47, 45, 50, 50, NONE, 52);
        x.heard(1, 2, 70, 60, 50, 40, 30, 20);
        x.heard(2, 1, 33, 38, 39, 44, 41, NONE);
        x.heard(3, NONE, 45, 46, 47, 48, 49, NONE);
        x.heard(0, 3, 41, 41, 44, NONE, NONE, 50);
        for (int recording : new int[] {4, 0, 5, 2}) {
            x.call("segment", recording);
        }
        x.yes("limit", 33);
        x.yes("set", 0b1110111111);
        for (int[] two : new int[][] {{0, 1}, {0, 2}, {2, 3}, {4, 6}}) {
            x.call("test", two[0], two[1]);
        }
    }

    private static void buildFull(Caller x, int recordings, int segments, int tests) {
        for (int number = 0; number < recordings; number++) {
            x.heard(number % 4, number % 10, number * 7 % 50, number * 11 % 50 + 20, number * 13 % 50 + 49, 99 - number);
        }
        for (int k = 0; k < segments; k++) {
            x.due(k + 1, "segment", 28 - 3 * k);
        }
        x.yes("limit", 111);
        for (int many = 0; many < tests; many++) {
            int a = many % 29;
            int b = (a + 1 + many % 5) % 29;
            x.due(x.call("score", a, b) <= 111 ? 1 : 0, "test", a, b);
        }
    }

    /** Right ones, of every sort that changes something. */
    private static List<Call> laterCalls(int recordings) {
        return List.of(new Call("record", 1, 2), new Call("record", 0, 2), new Call("tone", recordings, 5, 9),
                new Call("tone", recordings, 0, 61), new Call("tone", recordings, 1, 62), new Call("tone", 0, 0, 20),
                new Call("know", 0, 2), new Call("know", recordings, 1), new Call("segment", recordings),
                new Call("segment", 1), new Call("test", 0, 2), new Call("test", 0, recordings),
                new Call("set", 1021), new Call("limit", 44));
    }

    private static void refusedInScene(Scene scene, List<Call> refusedHere) {
        List<Call> questions = allQuestions(scene.recordings + 1);
        List<Integer> later = laterAnswers(scene, null);
        List<Integer> atOnce = answers(scene, null, questions, false);
        List<Integer> afterwards = answers(scene, null, questions, true);
        List<Refusal> refusals = wrongArguments(scene.recordings);
        refusals.addAll(wrongQuestions(scene.recordings));
        refusedHere.forEach(call -> refusals.add(new Refusal(NONE, call)));
        for (Refusal refusal : refusals) {
            compare(scene, refusal, scene.later, later, laterAnswers(scene, refusal));
            compare(scene, refusal, questions, atOnce, answers(scene, refusal, questions, false));
            compare(scene, refusal, questions, afterwards, answers(scene, refusal, questions, true));
        }
        askedAgain(scene, questions, atOnce);
        System.out.println(scene.name + " house: " + refusals.size() + " refused calls, " + questions.size()
                + " questions behind each");
    }

    private static void compare(Scene scene, Refusal refusal, List<Call> calls, List<Integer> wants,
            List<Integer> gots) {
        for (int i = 0; i < calls.size(); i++) {
            Caller.compare("What is refused changes nothing, " + scene.name + " house: behind " + refusal.call + " "
                    + calls.get(i), gots.get(i), wants.get(i));
        }
    }

    private static Caller built(Scene scene, Refusal refusal) {
        Caller x = new Caller("refused in the " + scene.name + " house");
        scene.build.accept(x);
        if (refusal != null) {
            x.due(refusal.answer, refusal.call.name, refusal.call.a);
        }
        return x;
    }

    private static List<Integer> laterAnswers(Scene scene, Refusal refusal) {
        Caller x = built(scene, refusal);
        List<Integer> found = new ArrayList<>();
        scene.later.forEach(call -> found.add(x.call(call.name, call.a)));
        return found;
    }

    /** Over as many houses as it takes, as none may have more than its number of calls. */
    private static List<Integer> answers(Scene scene, Refusal refusal, List<Call> questions, boolean whenMoreCame) {
        List<Integer> found = new ArrayList<>();
        while (found.size() < questions.size()) {
            Caller x = built(scene, refusal);
            if (whenMoreCame) {
                scene.later.forEach(call -> x.call(call.name, call.a));
            }
            while (found.size() < questions.size() && x.callsLeft() > 0) {
                Call question = questions.get(found.size());
                found.add(x.call(question.name, question.a));
            }
        }
        return found;
    }

    /** The same answers from the last question to the first: no question leaves anything behind. */
    private static void askedAgain(Scene scene, List<Call> questions, List<Integer> wants) {
        Caller x = null;
        for (int i = questions.size() - 1; i >= 0; i--) {
            if (x == null || x.callsLeft() == 0) {
                x = new Caller("asking changes nothing, " + scene.name + " house");
                scene.build.accept(x);
            }
            x.due(wants.get(i), questions.get(i).name, questions.get(i).a);
        }
    }

    private static List<Refusal> wrongArguments(int recordings) {
        List<Refusal> found = new ArrayList<>();
        for (int channel : new int[] {LEAST, -1, 4, 256, MOST}) {
            found.add(new Refusal(NONE, new Call("record", channel, 1)));
        }
        for (int speaker : new int[] {LEAST, -2, 10, 32, MOST}) {
            found.add(new Refusal(NONE, new Call("record", 0, speaker)));
            found.add(new Refusal(0, new Call("know", 0, speaker)));
        }
        for (int recording : wrongNumbers(recordings)) {
            found.add(new Refusal(0, new Call("tone", recording, 0, 77)));
            found.add(new Refusal(0, new Call("tone", recording, 5, NONE)));
            found.add(new Refusal(0, new Call("know", recording, 1)));
            found.add(new Refusal(NONE, new Call("segment", recording)));
            found.add(new Refusal(NONE, new Call("test", recording, 0)));
            found.add(new Refusal(NONE, new Call("test", 0, recording)));
        }
        for (int place : new int[] {LEAST, -6, -1, 6, 7, WRAPS, MOST}) {
            found.add(new Refusal(0, new Call("tone", 0, place, 77)));
            found.add(new Refusal(0, new Call("tone", 1, place, NONE)));
        }
        for (int tone : new int[] {LEAST, -2, 100, 256, MOST}) {
            found.add(new Refusal(0, new Call("tone", 0, 0, tone)));
        }
        for (int speakers : new int[] {LEAST, LEAST | 5, -1, 1024, MOST}) {
            found.add(new Refusal(0, new Call("set", speakers)));
        }
        for (int limit : new int[] {LEAST, -1, 201, MOST}) {
            found.add(new Refusal(0, new Call("limit", limit)));
        }
        found.add(new Refusal(NONE, new Call("test", 0, 0)));
        return found;
    }

    private static List<Refusal> wrongQuestions(int recordings) {
        List<Refusal> found = new ArrayList<>();
        for (int wrong : new int[] {LEAST, -1, 10, WRAPS, MOST}) {
            found.add(new Refusal(LEAST, new Call("shift", wrong, 0)));
            found.add(new Refusal(LEAST, new Call("shift", 1, wrong)));
            found.add(new Refusal(0, new Call("hidden", wrong, 0)));
            found.add(new Refusal(0, new Call("hidden", 1, wrong)));
            for (String name : new String[] {"band", "block"}) {
                found.add(new Refusal(NONE, new Call(name, wrong, 0)));
                found.add(new Refusal(NONE, new Call(name, 0, wrong)));
            }
            found.add(new Refusal(NONE, new Call("odds", 0, wrong)));
            found.add(new Refusal(NONE, new Call("voice", wrong)));
            found.add(new Refusal(NONE, new Call("rank", 0, wrong)));
            found.add(new Refusal(NONE, new Call("right", wrong)));
            found.add(new Refusal(NONE, new Call("count", wrong)));
        }
        for (int recording : wrongNumbers(recordings)) {
            found.add(new Refusal(NONE, new Call("score", recording, 0)));
            found.add(new Refusal(NONE, new Call("score", 0, recording)));
            found.add(new Refusal(NONE, new Call("lined", recording, 0)));
            found.add(new Refusal(NONE, new Call("lined", 0, recording)));
            found.add(new Refusal(NONE, new Call("rank", recording, 0)));
            found.add(new Refusal(NONE, new Call("told", recording, 10)));
        }
        found.add(new Refusal(NONE, new Call("odds", -1, 0)));
        found.add(new Refusal(NONE, new Call("told", 0, 16)));
        found.add(new Refusal(NONE, new Call("told", 0, 9)));
        return found;
    }

    private static int[] wrongNumbers(int recordings) {
        return new int[] {LEAST, -1, recordings, recordings + 1, WRAPS, MOST};
    }

    private static List<Call> allQuestions(int recordings) {
        List<Call> found = new ArrayList<>();
        for (int what = 0; what < 7; what++) {
            found.add(new Call("count", what));
        }
        for (int what = 0; what < 5; what++) {
            found.add(new Call("right", what));
        }
        for (int channel = 0; channel < 4; channel++) {
            for (int place = 0; place < 6; place++) {
                found.add(new Call("shift", channel, place));
                found.add(new Call("hidden", channel, place));
            }
        }
        for (int band = 0; band < 10; band++) {
            for (int what = 0; what < 5; what++) {
                found.add(new Call("odds", band * 10 + what, what));
            }
            for (int what = 0; what < 2; what++) {
                found.add(new Call("band", band, what));
                found.add(new Call("block", band, what));
            }
        }
        found.add(new Call("spare"));
        found.add(new Call("voices"));
        for (int k = 0; k < 9; k++) {
            found.add(new Call("voice", k));
        }
        for (int recording = 0; recording <= recordings; recording++) {
            addQuestionsOf(found, recording, recordings);
        }
        return found;
    }

    private static void addQuestionsOf(List<Call> found, int recording, int recordings) {
        for (int what = 0; what < 16; what++) {
            found.add(new Call("told", recording, what));
        }
        for (int other = 0; other <= recordings; other++) {
            found.add(new Call("score", recording, other));
            found.add(new Call("lined", recording, other));
        }
        for (int speaker = 0; speaker < 10; speaker++) {
            found.add(new Call("rank", recording, speaker));
        }
    }

    /** Behind the 512th call too: what it answers is free there, but it answers. */
    private static void noCallThrows() {
        Random random = new Random(512);
        int[] odd = {LEAST, LEAST + 1, -7, -2, -1, 0, 1, 5, 6, 9, 10, 29, 30, 99, 100, 200, 1023, 1024, WRAPS, MOST};
        VoiceHouse[] houses = {new VoiceHouse(), new VoiceHouse()};
        for (int i = 0; i < 40000; i++) {
            String name = NAMES[random.nextInt(NAMES.length)];
            int[] a = new int[3];
            for (int j = 0; j < a.length; j++) {
                a[j] = random.nextInt(3) == 0 ? odd[random.nextInt(odd.length)] : random.nextInt(10);
            }
            Caller.callOn(houses[i % 5 == 0 ? 0 : 1], name, a);
        }
    }
}
