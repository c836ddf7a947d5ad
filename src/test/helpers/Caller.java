import java.util.Arrays;

/** One house, called by words, so that a wrong answer is told with its call; it keeps to the document's 512 calls. */
final class Caller {
    static final int NONE = -1;
    static final int MOST_CALLS = 512;

    private static int passed = 0;
    private static int wrong = 0;

    private final String about;
    private final VoiceHouse house = new VoiceHouse();
    private int calls = 0;

    /** What it is about stands ahead of each wrong answer: a promise's number and a sentence of the document. */
    Caller(String about) {
        this.about = about;
    }

    /** Ends the test: with 1 if an answer was not the one that is due. */
    static void end() {
        System.out.println(passed + " answers as due, " + wrong + " not");
        if (wrong != 0) {
            System.exit(1);
        }
    }

    static void compare(String what, int got, int want) {
        if (got == want) {
            passed++;
        } else {
            wrong++;
            System.out.println(what + " answered " + got + ", due is " + want);
        }
    }

    int callsLeft() {
        return MOST_CALLS - calls;
    }

    int call(String name, int... a) {
        calls++;
        if (calls > MOST_CALLS) {
            throw new IllegalStateException(about + ": nothing is promised behind the 512th call");
        }
        return callOn(house, name, a);
    }

    void due(int want, String name, int... a) {
        int got = call(name, a);
        compare(about + ": " + name + Arrays.toString(a), got, want);
    }

    void yes(String name, int... a) {
        due(1, name, a);
    }

    void no(String name, int... a) {
        due(0, name, a);
    }

    void none(String name, int... a) {
        due(NONE, name, a);
    }

    /** A RECORDING with these TONES from place 0 on; those behind them, and those that are NONE, stay LOST. */
    int heard(int channel, int speaker, int... tones) {
        int number = call("record", channel, speaker);
        for (int place = 0; place < tones.length; place++) {
            if (tones[place] != NONE) {
                yes("tone", number, place, tones[place]);
            }
        }
        return number;
    }

    /** A RECORDING of CHANNEL 0: the SCORE of two such is how much their numbers here differ. */
    int flat(int speaker, int tone) {
        return heard(0, speaker, tone, 0, 0, 0, 0, 0);
    }

    /** A boolean counts 1 or 0. */
    static int callOn(VoiceHouse x, String name, int... a) {
        return switch (name) {
            case "record" -> x.record(a[0], a[1]);
            case "tone" -> x.tone(a[0], a[1], a[2]) ? 1 : 0;
            case "know" -> x.know(a[0], a[1]) ? 1 : 0;
            case "set" -> x.set(a[0]) ? 1 : 0;
            case "limit" -> x.limit(a[0]) ? 1 : 0;
            case "shift" -> x.shift(a[0], a[1]);
            case "hidden" -> x.hidden(a[0], a[1]) ? 1 : 0;
            case "score" -> x.score(a[0], a[1]);
            case "band" -> x.band(a[0], a[1]);
            case "block" -> x.block(a[0], a[1]);
            case "odds" -> x.odds(a[0], a[1]);
            case "segment" -> x.segment(a[0]);
            case "clear" -> x.clear();
            case "voice" -> x.voice(a[0]);
            case "voices" -> x.voices();
            case "spare" -> x.spare();
            case "lined" -> x.lined(a[0], a[1]);
            case "rank" -> x.rank(a[0], a[1]);
            case "test" -> x.test(a[0], a[1]);
            case "right" -> x.right(a[0]);
            case "told" -> x.told(a[0], a[1]);
            case "count" -> x.count(a[0]);
            default -> throw new IllegalArgumentException("no such call: " + name);
        };
    }
}
