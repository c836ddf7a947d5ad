/** Boundary cases of LINE-UPS and BLIND TESTS: promises 18 to 21. */
public final class LineUpEdgesTest {
    private static final int NONE = Caller.NONE;
    private static final int LEAST = Integer.MIN_VALUE;
    private static final int MOST = Integer.MAX_VALUE;

    public static void main(String[] args) {
        linedOfNoSuchPlace();
        linedOfNoSuchRecording();
        linedOfLikeOnesByNumbers();
        linedOfOthersOnly();
        linedOfKnownSpeakersOfTheSet();
        linedNeedsAScore();
        linedOfTheMost();
        linedAsThingsAreNow();
        rankOfNoSuch();
        rankOfThoseWhoAreNotInIt();
        rankOfLikeScores();
        rankCountsSpeakersOnce();
        rankOfTheMost();
        testAtTheLimit();
        testOfNoSuch();
        testOfNobodyKnown();
        testWithoutAScore();
        atMostSixty();
        atMostSixtySilentOnes();
        rightOfNoSuch();
        rightOfEachSort();
        rightAsItWasThen();
        Caller.end();
    }

    private static void dueLine(Caller x, int recording, int... line) {
        for (int i = 0; i < line.length; i++) {
            x.due(line[i], "lined", recording, i);
        }
        x.none("lined", recording, line.length);
        x.none("lined", recording, -1);
    }

    private static Caller threeInALine(String about) {
        Caller x = new Caller(about);
        x.flat(1, 50);
        x.flat(2, 53);
        x.flat(3, 45);
        return x;
    }

    private static void linedOfNoSuchPlace() {
        Caller x = threeInALine("18: the i-th (from 0 on); NONE if there is none such");
        for (int i : new int[] {LEAST, -2, -1, 2, 3, 29, 30, 31, MOST}) {
            x.none("lined", 0, i);
        }
        dueLine(x, 0, 1, 2);
        dueLine(x, 1, 0, 2);
        dueLine(x, 2, 0, 1);
    }

    private static void linedOfNoSuchRecording() {
        Caller x = threeInALine("18: NONE if there is no such RECORDING");
        for (int recording : new int[] {LEAST, -1, 3, 4, 29, 30, 715827883, MOST}) {
            x.due(1, "lined", 0, 0);
            x.none("lined", recording, 0);
            x.none("lined", recording, 1);
            x.none("lined", recording, -1);
        }
    }

    private static void linedOfLikeOnesByNumbers() {
        Caller x = new Caller("18: of like ones by numbers");
        x.flat(1, 55);
        x.flat(1, 45);
        x.flat(1, 50);
        x.flat(2, 45);
        x.flat(2, 55);
        x.flat(3, 50);
        x.flat(3, 55);
        dueLine(x, 2, 5, 0, 1, 3, 4, 6);
        dueLine(x, 5, 2, 0, 1, 3, 4, 6);
        dueLine(x, 6, 0, 4, 2, 5, 1, 3);
        Caller y = new Caller("18: by the SCORE as it is cut");
        // 5 places: 2 times 6 by 5 is 2, like the 2 of six places.
        y.heard(0, 1, 0, 0, 0, 0, 0, 0);
        y.heard(0, 1, 2, 0, 0, 0, 0);
        y.heard(0, 1, 2, 0, 0, 0, 0, 0);
        y.due(2, "score", 0, 1);
        y.due(2, "score", 0, 2);
        dueLine(y, 0, 1, 2);
    }

    private static void linedOfOthersOnly() {
        Caller x = new Caller("18: all other RECORDINGS, also of the same SPEAKER");
        x.flat(4, 10);
        dueLine(x, 0);
        x.flat(4, 12);
        dueLine(x, 0, 1);
        dueLine(x, 1, 0);
    }

    private static void linedOfKnownSpeakersOfTheSet() {
        Caller x = new Caller("18: of known SPEAKERS of the SET");
        x.flat(NONE, 50);
        x.flat(0, 51);
        x.flat(NONE, 50);
        x.flat(9, 52);
        dueLine(x, 0, 1, 3);
        dueLine(x, 2, 1, 3);
        x.yes("set", 1);
        dueLine(x, 0, 1);
        dueLine(x, 1);
        dueLine(x, 3, 1);
        x.yes("set", 512);
        dueLine(x, 0, 3);
        dueLine(x, 3);
        x.yes("set", 510);
        dueLine(x, 0);
        x.yes("set", 0);
        dueLine(x, 0);
        dueLine(x, 3);
        x.yes("set", 1023);
        dueLine(x, 0, 1, 3);
    }

    private static void linedNeedsAScore() {
        Caller x = new Caller("18: that have a SCORE with it");
        x.heard(0, 1, 5, 5, 5);
        x.heard(0, 2, 5, 5, NONE, 5, 5);
        x.heard(0, 3, 5, 5, 6, 6);
        x.heard(0, 4);
        dueLine(x, 0, 2);
        dueLine(x, 1, 2);
        dueLine(x, 2, 0, 1);
        dueLine(x, 3);
        x.yes("tone", 1, 2, 5);
        dueLine(x, 0, 1, 2);
    }

    private static void linedOfTheMost() {
        Caller x = new Caller("18: 29 others");
        for (int number = 0; number < 30; number++) {
            x.heard(0, number % 10, 60 - 2 * number < 0 ? 0 : 60 - 2 * number, 0, 0);
        }
        int[] line = new int[29];
        for (int i = 0; i < 29; i++) {
            line[i] = 28 - i;
        }
        dueLine(x, 29, line);
        for (int i = 0; i < 29; i++) {
            line[i] = i + 1;
        }
        dueLine(x, 0, line);
        x.none("lined", 0, 30);
        x.none("lined", 30, 0);
    }

    private static void linedAsThingsAreNow() {
        Caller x = threeInALine("18: the LINE-UP as TONES and SPEAKERS are now");
        dueLine(x, 0, 1, 2);
        x.yes("tone", 1, 0, 56);
        dueLine(x, 0, 2, 1);
        x.yes("know", 2, NONE);
        dueLine(x, 0, 1);
        x.yes("know", 2, 0);
        dueLine(x, 0, 2, 1);
        x.flat(0, 50);
        dueLine(x, 0, 3, 2, 1);
        x.yes("limit", 0);
        dueLine(x, 0, 3, 2, 1);
    }

    private static void rankOfNoSuch() {
        Caller x = threeInALine("19: NONE if there is none such");
        x.yes("know", 1, 0);
        x.flat(NONE, 50);
        for (int wrong : new int[] {LEAST, -2, -1, 10, 11, 32, 33, 35, 256, MOST}) {
            x.none("rank", 0, wrong);
            x.none("rank", wrong, 0);
            x.none("rank", wrong, wrong);
        }
        x.none("rank", 4, 0);
        x.none("rank", 30, 0);
        x.due(0, "rank", 0, 0);
        x.due(1, "rank", 0, 3);
    }

    private static void rankOfThoseWhoAreNotInIt() {
        Caller x = threeInALine("19: NONE if they aren't in it");
        // SPEAKER 1 has but the RECORDING that the LINE-UP is of.
        x.none("rank", 0, 1);
        x.due(0, "rank", 1, 1);
        x.none("rank", 0, 0);
        x.none("rank", 0, 9);
        x.due(0, "rank", 0, 2);
        x.due(1, "rank", 0, 3);
        x.yes("set", 1 << 3);
        x.none("rank", 0, 2);
        x.due(0, "rank", 0, 3);
        x.yes("set", 0);
        x.none("rank", 0, 3);
        x.yes("set", 1023);
        x.due(3, "record", 0, 9);
        x.none("rank", 0, 9);
        x.none("rank", 3, 1);
        for (int place = 0; place < 3; place++) {
            x.none("rank", 0, 9);
            x.yes("tone", 3, place, place == 0 ? 50 : 0);
        }
        x.due(0, "rank", 0, 9);
        x.due(2, "rank", 0, 3);
    }

    private static void rankOfLikeScores() {
        Caller x = new Caller("19: ahead, of like ones by numbers");
        x.flat(NONE, 50);
        x.flat(5, 60);
        x.flat(6, 60);
        x.flat(7, 40);
        x.due(0, "rank", 0, 5);
        x.due(1, "rank", 0, 6);
        x.due(2, "rank", 0, 7);
        x.yes("know", 1, 7);
        x.due(0, "rank", 0, 7);
        x.due(1, "rank", 0, 6);
        x.none("rank", 0, 5);
    }

    private static void rankCountsSpeakersOnce() {
        Caller x = new Caller("19: how many other SPEAKERS have a RECORDING ahead of all theirs");
        x.flat(0, 50);
        x.flat(1, 51);
        x.flat(1, 52);
        x.flat(2, 53);
        x.flat(1, 54);
        x.flat(3, 55);
        x.flat(0, 56);
        x.flat(2, 57);
        x.due(0, "rank", 0, 1);
        x.due(1, "rank", 0, 2);
        x.due(2, "rank", 0, 3);
        x.due(3, "rank", 0, 0);
        // From the other end: 0, 3, 1, 2 and so on.
        x.due(0, "rank", 7, 0);
        x.due(1, "rank", 7, 3);
        x.due(2, "rank", 7, 1);
        x.due(3, "rank", 7, 2);
    }

    private static void rankOfTheMost() {
        Caller x = new Caller("19: ten SPEAKERS");
        x.flat(NONE, 0);
        for (int speaker = 9; speaker >= 0; speaker--) {
            x.flat(speaker, 90 - speaker);
        }
        for (int speaker = 0; speaker < 10; speaker++) {
            x.due(9 - speaker, "rank", 0, speaker);
        }
        x.yes("set", 1023 ^ 1 << 9);
        x.due(8, "rank", 0, 0);
        x.none("rank", 0, 9);
    }

    private static void testAtTheLimit() {
        Caller x = new Caller("20: SAME, if they have a SCORE that isn't above the LIMIT as it is then");
        x.heard(0, 1, 0, 0, 0);
        x.heard(0, 2, 10, 0, 0);
        x.heard(0, 3, 0, 0, 0);
        x.heard(0, 4, 99, 1, 0);
        x.heard(0, 4, 99, 1, 1);
        x.due(1, "test", 0, 1);
        x.due(1, "test", 1, 0);
        x.yes("limit", 19);
        x.due(0, "test", 0, 1);
        x.yes("limit", 21);
        x.due(1, "test", 0, 1);
        x.yes("limit", 0);
        x.due(1, "test", 0, 2);
        x.due(0, "test", 0, 1);
        x.yes("tone", 2, 2, 1);
        x.due(0, "test", 0, 2);
        x.yes("limit", 200);
        x.due(1, "test", 0, 3);
        x.due(0, "test", 0, 4);
        x.due(0, "test", 4, 0);
        x.no("limit", 201);
        x.due(0, "test", 0, 4);
    }

    private static void dueOutcomes(Caller x, int... outcomes) {
        for (int what = 0; what < 5; what++) {
            x.due(outcomes[what], "right", what);
        }
    }

    private static void testOfNoSuch() {
        Caller x = threeInALine("20: NONE if there are none such, or both are one");
        for (int wrong : new int[] {LEAST, -2, -1, 3, 4, 29, 30, 715827883, MOST}) {
            x.none("test", 0, wrong);
            x.none("test", wrong, 0);
            x.none("test", wrong, wrong);
        }
        for (int number = 0; number < 3; number++) {
            x.none("test", number, number);
        }
        dueOutcomes(x, 0, 0, 0, 0, 0);
    }

    private static void testOfNobodyKnown() {
        Caller x = threeInALine("20: NONE if one's SPEAKER isn't known");
        x.yes("set", 0);
        x.due(1, "test", 0, 1);
        x.yes("know", 0, NONE);
        x.none("test", 0, 1);
        x.none("test", 1, 0);
        x.yes("know", 1, NONE);
        x.none("test", 0, 1);
        dueOutcomes(x, 0, 1, 0, 0, 0);
        x.yes("know", 0, 0);
        x.none("test", 0, 1);
        x.yes("know", 1, 0);
        x.due(1, "test", 0, 1);
        dueOutcomes(x, 1, 1, 0, 0, 0);
    }

    private static void testWithoutAScore() {
        Caller x = new Caller("20: nothing without a SCORE");
        x.heard(0, 1, 5, 5, 5);
        x.heard(0, 1, 5, 5);
        x.heard(0, 2);
        x.due(2, "test", 0, 1);
        x.due(2, "test", 1, 2);
        x.yes("limit", 0);
        x.due(2, "test", 2, 0);
        x.yes("limit", 200);
        x.due(2, "test", 0, 1);
        dueOutcomes(x, 0, 0, 0, 0, 4);
        x.yes("tone", 1, 2, 5);
        x.due(1, "test", 0, 1);
        dueOutcomes(x, 1, 0, 0, 0, 4);
    }

    private static void atMostSixty() {
        Caller x = threeInALine("20: NONE if 60 were");
        for (int many = 0; many < 60; many++) {
            dueRefusedTests(x);
            x.due(1, "test", many % 2, 1 - many % 2);
        }
        dueRefusedTests(x);
        for (int again = 0; again < 3; again++) {
            x.none("test", 0, 1);
            x.none("test", 1, 2);
        }
        dueOutcomes(x, 0, 60, 0, 0, 0);
        // What else there is goes on.
        x.yes("limit", 5);
        x.yes("know", 1, 1);
        x.none("test", 0, 1);
        x.due(1, "count", 1);
        x.due(0, "clear");
        x.none("test", 0, 1);
        dueOutcomes(x, 0, 60, 0, 0, 0);
        x.due(3, "record", 0, 0);
        x.none("test", 0, 3);
    }

    /** Refused ones are none of the 60. */
    private static void dueRefusedTests(Caller x) {
        x.none("test", 0, 0);
        x.none("test", 0, 3);
    }

    private static void atMostSixtySilentOnes() {
        Caller x = new Caller("20: BLIND TESTS at most 60, also silent ones");
        x.due(0, "record", 0, 1);
        x.due(1, "record", 0, 1);
        for (int many = 0; many < 59; many++) {
            x.due(2, "test", 0, 1);
        }
        dueOutcomes(x, 0, 0, 0, 0, 59);
        for (int place = 0; place < 3; place++) {
            x.yes("tone", 0, place, 7);
            x.yes("tone", 1, place, 7);
        }
        x.due(1, "test", 1, 0);
        x.none("test", 0, 1);
        dueOutcomes(x, 1, 0, 0, 0, 59);
        Caller y = new Caller("20: each object has 60 of its own");
        y.heard(0, 1, 0, 0, 0);
        y.heard(0, 1, 0, 0, 0);
        y.due(1, "test", 0, 1);
    }

    private static void rightOfNoSuch() {
        Caller x = threeInALine("21: NONE for others");
        x.due(1, "test", 0, 1);
        for (int what : new int[] {LEAST, -5, -2, -1, 5, 6, 10, 65536, MOST}) {
            x.none("right", what);
        }
        dueOutcomes(x, 0, 1, 0, 0, 0);
    }

    private static void rightOfEachSort() {
        Caller x = new Caller("21: RIGHT SAME, FALSE SAME, RIGHT OTHER, FALSE OTHER, SILENT");
        x.flat(1, 0);
        x.flat(1, 20);
        x.flat(1, 41);
        x.flat(2, 20);
        x.flat(2, 41);
        x.due(5, "record", 0, 1);
        int[][] tests = {{0, 1, 1, 0}, {0, 3, 1, 1}, {1, 4, 0, 2}, {3, 4, 0, 3}, {0, 5, 2, 4}, {3, 5, 2, 4}};
        int[] outcomes = new int[5];
        for (int[] row : tests) {
            x.due(row[2], "test", row[0], row[1]);
            outcomes[row[3]]++;
            dueOutcomes(x, outcomes);
            x.due(row[2], "test", row[1], row[0]);
            outcomes[row[3]]++;
            dueOutcomes(x, outcomes);
        }
    }

    private static void rightAsItWasThen() {
        Caller x = new Caller("21: counted (by SPEAKERS as they are then)");
        x.flat(1, 0);
        x.flat(1, 10);
        x.due(1, "test", 0, 1);
        x.yes("know", 1, 2);
        dueOutcomes(x, 1, 0, 0, 0, 0);
        x.due(1, "test", 0, 1);
        dueOutcomes(x, 1, 1, 0, 0, 0);
        x.yes("limit", 9);
        dueOutcomes(x, 1, 1, 0, 0, 0);
        x.due(0, "test", 0, 1);
        dueOutcomes(x, 1, 1, 1, 0, 0);
        x.yes("know", 0, 2);
        x.due(0, "test", 0, 1);
        dueOutcomes(x, 1, 1, 1, 1, 0);
        x.yes("tone", 1, 0, 0);
        dueOutcomes(x, 1, 1, 1, 1, 0);
        for (int place = 0; place < 4; place++) {
            x.yes("tone", 1, place, NONE);
        }
        x.due(2, "test", 0, 1);
        x.yes("know", 0, NONE);
        x.yes("set", 0);
        dueOutcomes(x, 1, 1, 1, 1, 1);
    }
}
