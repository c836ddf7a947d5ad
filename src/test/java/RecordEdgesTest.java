/** Boundary cases of what comes in and is told again: promises 1 to 6, 22 and 23. */
public final class RecordEdgesTest {
    private static final int NONE = Caller.NONE;
    private static final int LEAST = Integer.MIN_VALUE;
    private static final int MOST = Integer.MAX_VALUE;
    // Times 6 (the places of a RECORDING) this one wraps around to 2.
    private static final int WRAPS = 715827883;

    public static void main(String[] args) {
        newObjectHasNoRecordings();
        newObjectAtFirst();
        objectsAreApart();
        numbersAsTheyCome();
        atMostThirty();
        channels();
        speakers();
        allTonesLostAtFirst();
        newRecordingIsInNoPair();
        tonesFromLeastToMost();
        toneCanBeLostAgain();
        toneOfNoSuchRecording();
        toneOfNoSuchPlace();
        toneOfTheLastRecording();
        knowFromLeastToMost();
        knowNobody();
        knowOfNoSuchRecording();
        setFromLeastToMost();
        setIsBits();
        limitFromLeastToMost();
        toldWhat();
        toldCountsTones();
        toldOfNoSuchRecording();
        countWhat();
        countsOfAnEmptySet();
        Caller.end();
    }

    private static void newObjectHasNoRecordings() {
        Caller x = new Caller("1: no RECORDINGS");
        x.due(0, "count", 0);
        for (int what = -1; what <= 16; what++) {
            x.none("told", 0, what);
        }
        x.no("tone", 0, 0, 0);
        x.no("know", 0, 0);
        x.none("segment", 0);
        x.none("score", 0, 1);
        x.none("lined", 0, 0);
        x.none("rank", 0, 0);
        x.none("test", 0, 1);
        x.due(0, "count", 0);
    }

    private static void newObjectAtFirst() {
        Caller x = new Caller("1: what is so at first");
        int[] counts = {0, 0, 0, 0, 0, 20, 1023};
        for (int what = 0; what < counts.length; what++) {
            x.due(counts[what], "count", what);
        }
        for (int what = 0; what < 5; what++) {
            x.due(0, "right", what);
        }
        for (int band = 0; band < 10; band++) {
            x.due(0, "band", band, 0);
            x.due(0, "band", band, 1);
            x.none("block", band, 0);
            x.none("block", band, 1);
            x.none("odds", band * 10, 1);
        }
        for (int channel = 0; channel < 4; channel++) {
            for (int place = 0; place < 6; place++) {
                x.due(0, "shift", channel, place);
                x.due(channel == 0 ? 0 : 1, "hidden", channel, place);
            }
        }
        x.none("voice", 0);
        x.due(0, "voices");
        x.due(0, "spare");
        x.due(0, "clear");
    }

    private static void objectsAreApart() {
        Caller x = new Caller("1: a new object beside another one");
        Caller y = new Caller("1: a new object beside a used one");
        x.flat(1, 5);
        x.flat(1, 5);
        x.due(1, "segment", 0);
        x.yes("limit", 7);
        x.yes("set", 2);
        x.due(1, "test", 0, 1);
        y.due(0, "count", 0);
        y.due(0, "count", 1);
        y.due(0, "count", 4);
        y.due(20, "count", 5);
        y.due(1023, "count", 6);
        y.due(0, "right", 0);
        y.due(0, "record", 3, 3);
        x.due(0, "told", 0, 0);
    }

    private static void numbersAsTheyCome() {
        Caller x = new Caller("2: RECORDINGS have numbers as they come");
        x.due(0, "record", 0, 0);
        x.none("record", 4, 0);
        x.none("record", 0, 10);
        x.due(1, "record", 0, 0);
        x.none("record", -1, -2);
        x.due(2, "record", 0, NONE);
        x.due(3, "count", 0);
    }

    private static void atMostThirty() {
        Caller x = new Caller("2: NONE if 30 came");
        for (int number = 0; number < 30; number++) {
            x.due(number, "record", number % 4, number % 11 - 1);
        }
        for (int again = 0; again < 3; again++) {
            x.none("record", 0, 0);
            x.none("record", 3, NONE);
            x.none("record", 4, 0);
        }
        x.due(30, "count", 0);
        for (int number = 0; number < 30; number++) {
            x.due(number % 4, "told", number, 0);
            x.due(number % 11 - 1, "told", number, 1);
        }
        x.none("told", 30, 0);
        x.no("tone", 30, 0, 0);
        x.no("know", 30, 0);
        x.none("segment", 30);
    }

    private static void channels() {
        Caller x = new Caller("2: CHANNEL (0 .. 3)");
        for (int channel = 0; channel < 4; channel++) {
            x.due(channel, "record", channel, 0);
            x.due(channel, "told", channel, 0);
        }
        for (int channel : new int[] {LEAST, -4, -1, 4, 5, 256, 65536, MOST}) {
            x.none("record", channel, 0);
        }
        x.due(4, "count", 0);
    }

    private static void speakers() {
        Caller x = new Caller("2: SPEAKER (0 .. 9, or nobody known)");
        for (int speaker = -1; speaker < 10; speaker++) {
            x.due(speaker + 1, "record", 0, speaker);
            x.due(speaker, "told", speaker + 1, 1);
        }
        for (int speaker : new int[] {LEAST, -10, -2, 10, 11, 32, 33, 256, 65536, MOST}) {
            x.none("record", 0, speaker);
        }
        x.due(11, "count", 0);
    }

    private static void allTonesLostAtFirst() {
        Caller x = new Caller("2: with all its TONES LOST");
        for (int number = 0; number < 30; number++) {
            x.due(number, "record", 0, 0);
            x.due(0, "told", number, 2);
            for (int place = 0; place < 6; place++) {
                x.none("told", number, 10 + place);
            }
        }
    }

    private static void newRecordingIsInNoPair() {
        Caller x = new Caller("2: a RECORDING without TONES changes no SHIFT, no PAIR and no LINE-UP");
        x.heard(0, 1, 10, 10, 10);
        x.heard(1, 1, 14, 14, 14);
        x.due(4, "shift", 1, 0);
        x.due(1, "count", 1);
        x.due(2, "record", 1, 1);
        x.due(3, "record", 0, 1);
        x.due(4, "shift", 1, 0);
        x.due(1, "hidden", 1, 3);
        x.due(1, "count", 1);
        x.due(0, "count", 2);
        x.none("score", 0, 3);
        x.none("score", 2, 3);
        x.due(1, "lined", 0, 0);
        x.none("lined", 0, 1);
        x.none("lined", 3, 0);
        Caller y = new Caller("2: the PAIRS of 29 RECORDINGS, when the 30th came and another one was refused");
        for (int number = 0; number < 29; number++) {
            y.heard(0, 1, 5, 5, 5);
        }
        y.due(29, "record", 0, 1);
        y.none("record", 0, 1);
        y.due(406, "count", 1);
        y.due(0, "count", 2);
        y.due(1, "count", 3);
        y.due(406, "band", 0, 0);
        y.none("lined", 29, 0);
    }

    private static void tonesFromLeastToMost() {
        Caller x = new Caller("3: TONES (0 .. 99 each, or LOST)");
        x.due(0, "record", 0, 0);
        for (int tone : new int[] {0, 1, 98, 99}) {
            x.yes("tone", 0, 2, tone);
            x.due(tone, "told", 0, 12);
        }
        for (int tone : new int[] {LEAST, -100, -2, 100, 101, 256, 65536, MOST}) {
            x.no("tone", 0, 2, tone);
            x.due(99, "told", 0, 12);
            x.no("tone", 0, 3, tone);
            x.none("told", 0, 13);
        }
        x.due(1, "told", 0, 2);
    }

    private static void toneCanBeLostAgain() {
        Caller x = new Caller("3: NONE: LOST");
        x.due(0, "record", 0, 0);
        x.yes("tone", 0, 0, NONE);
        x.none("told", 0, 10);
        x.yes("tone", 0, 0, 0);
        x.due(0, "told", 0, 10);
        x.due(1, "told", 0, 2);
        x.yes("tone", 0, 0, NONE);
        x.none("told", 0, 10);
        x.due(0, "told", 0, 2);
        x.yes("tone", 0, 0, NONE);
        x.yes("tone", 0, 0, 50);
        x.due(50, "told", 0, 10);
    }

    private static void toneOfNoSuchRecording() {
        Caller x = new Caller("3: false if there is no such RECORDING");
        x.heard(0, 0, 1, 2, 3, 4, 5, 6);
        x.heard(0, 0, 11, 12, 13, 14, 15, 16);
        for (int recording : new int[] {LEAST, -6, -1, 2, 3, 29, 30, WRAPS, MOST}) {
            x.no("tone", recording, 0, 50);
            x.no("tone", recording, 5, NONE);
        }
        for (int place = 0; place < 6; place++) {
            x.due(1 + place, "told", 0, 10 + place);
            x.due(11 + place, "told", 1, 10 + place);
        }
        x.due(2, "record", 0, 0);
        x.due(0, "told", 2, 2);
    }

    private static void toneOfNoSuchPlace() {
        Caller x = new Caller("3: false if there is no such place (0 .. 5)");
        for (int number = 0; number < 3; number++) {
            x.heard(0, 0, 1, 2, 3, 4, 5, 6);
        }
        for (int place : new int[] {LEAST, -7, -6, -1, 6, 7, 11, 12, WRAPS, MOST}) {
            x.no("tone", 1, place, 50);
            x.no("tone", 1, place, NONE);
        }
        for (int number = 0; number < 3; number++) {
            for (int place = 0; place < 6; place++) {
                x.due(1 + place, "told", number, 10 + place);
            }
        }
    }

    private static void toneOfTheLastRecording() {
        Caller x = new Caller("3: the last place of the last RECORDING that can be");
        for (int number = 0; number < 30; number++) {
            x.due(number, "record", 0, 0);
        }
        x.yes("tone", 29, 5, 77);
        x.due(77, "told", 29, 15);
        x.no("tone", 29, 6, 78);
        x.no("tone", 30, 0, 78);
        x.no("tone", 30, -1, 78);
        x.due(77, "told", 29, 15);
        x.due(1, "told", 29, 2);
        x.due(0, "told", 28, 2);
        x.due(0, "told", 0, 2);
    }

    private static void knowFromLeastToMost() {
        Caller x = new Caller("4: whose a RECORDING is (SPEAKER 0 .. 9)");
        x.due(0, "record", 0, NONE);
        for (int speaker = 0; speaker < 10; speaker++) {
            x.yes("know", 0, speaker);
            x.due(speaker, "told", 0, 1);
            x.yes("know", 0, speaker);
        }
        for (int speaker : new int[] {LEAST, -10, -2, 10, 11, 32, 41, 256, 65536, MOST}) {
            x.no("know", 0, speaker);
            x.due(9, "told", 0, 1);
        }
    }

    private static void knowNobody() {
        Caller x = new Caller("4: (or not: NONE)");
        x.flat(1, 5);
        x.flat(1, 5);
        x.due(1, "count", 1);
        x.yes("know", 0, NONE);
        x.none("told", 0, 1);
        x.due(0, "count", 1);
        x.yes("know", 0, NONE);
        x.yes("know", 1, NONE);
        x.due(0, "count", 1);
        x.due(0, "count", 2);
        x.due(0, "score", 0, 1);
        x.yes("know", 0, 9);
        x.yes("know", 1, 9);
        x.due(1, "count", 1);
    }

    private static void knowOfNoSuchRecording() {
        Caller x = new Caller("4: false if there is none such");
        x.due(0, "record", 0, 4);
        x.due(1, "record", 1, NONE);
        for (int recording : new int[] {LEAST, -1, 2, 3, 29, 30, MOST}) {
            x.no("know", recording, 5);
            x.no("know", recording, NONE);
        }
        x.due(4, "told", 0, 1);
        x.none("told", 1, 1);
        x.due(2, "record", 0, NONE);
        x.none("told", 2, 1);
    }

    private static void setFromLeastToMost() {
        Caller x = new Caller("5: false if it isn't 0 .. 1023");
        x.flat(9, 0);
        x.flat(9, 0);
        for (int speakers : new int[] {LEAST, LEAST | 1, LEAST | 1023, -1024, -1, 1024, 1025, 2047, 65536, MOST}) {
            x.no("set", speakers);
            x.due(1023, "count", 6);
            x.due(1, "count", 1);
        }
        x.yes("set", 0);
        x.due(0, "count", 6);
        x.due(0, "count", 1);
        x.no("set", 1024);
        x.no("set", -1);
        x.due(0, "count", 6);
        x.due(0, "count", 1);
        for (int speakers : new int[] {512, 1023, 1}) {
            x.yes("set", speakers);
            x.due(speakers, "count", 6);
            x.due(speakers >= 512 ? 1 : 0, "count", 1);
        }
    }

    private static void setIsBits() {
        Caller x = new Caller("5: SET: SPEAKERS (bits)");
        for (int number = 0; number < 20; number++) {
            x.heard(0, number / 2, 0, 0, 0);
        }
        x.due(10, "count", 1);
        x.due(180, "count", 2);
        for (int speaker = 0; speaker < 10; speaker++) {
            x.yes("set", 1 << speaker);
            x.due(1, "count", 1);
            x.due(0, "count", 2);
            x.due(0, "rank", 0, speaker);
            x.yes("set", 1023 ^ 1 << speaker);
            x.due(9, "count", 1);
            x.due(144, "count", 2);
        }
        x.yes("set", 1 | 1 << 9);
        x.due(2, "count", 1);
        x.due(4, "count", 2);
    }

    private static void limitFromLeastToMost() {
        Caller x = new Caller("6: LIMIT (0 .. 200; 20 at first)");
        x.flat(1, 0);
        x.due(1, "segment", 0);
        int now = 20;
        for (int next : new int[] {0, 1, 199, 200}) {
            for (int wrong : new int[] {LEAST, -200, -1, 201, 256, 65536, MOST}) {
                x.no("limit", wrong);
                x.due(now, "count", 5);
            }
            x.due(now, "spare");
            x.yes("limit", next);
            x.due(next, "count", 5);
            now = next;
        }
    }

    private static void toldWhat() {
        Caller x = new Caller("22: NONE for others");
        x.heard(2, 7, 1, 2, 3, 4, 5, 6);
        x.heard(3, 8, 11, 12, 13, 14, 15, 16);
        x.due(2, "told", 0, 0);
        x.due(7, "told", 0, 1);
        x.due(6, "told", 0, 2);
        for (int what = 3; what < 10; what++) {
            x.none("told", 0, what);
            x.none("told", 1, what);
        }
        for (int what = 16; what < 24; what++) {
            x.none("told", 0, what);
            x.none("told", 1, what);
        }
        for (int what : new int[] {LEAST, LEAST + 9, LEAST + 10, LEAST + 15, -10, -2, -1, 65536, MOST - 1, MOST}) {
            x.none("told", 0, what);
            x.none("told", 1, what);
        }
        x.due(1, "told", 0, 10);
        x.due(6, "told", 0, 15);
    }

    private static void toldCountsTones() {
        Caller x = new Caller("22: TONES that aren't LOST");
        x.due(0, "record", 0, 0);
        for (int place = 0; place < 6; place++) {
            x.due(place, "told", 0, 2);
            x.yes("tone", 0, place, 0);
        }
        x.due(6, "told", 0, 2);
        x.yes("tone", 0, 3, 99);
        x.due(6, "told", 0, 2);
        for (int place = 5; place >= 0; place--) {
            x.yes("tone", 0, place, NONE);
            x.due(place, "told", 0, 2);
        }
    }

    private static void toldOfNoSuchRecording() {
        Caller x = new Caller("22: NONE if there is none such");
        x.heard(3, 3, 3, 3, 3, 3, 3, 3);
        for (int recording : new int[] {LEAST, -1, 1, 2, 29, 30, 31, WRAPS, MOST}) {
            for (int what : new int[] {0, 1, 2, 10, 15}) {
                x.none("told", recording, what);
            }
        }
    }

    private static void countWhat() {
        Caller x = new Caller("23: NONE for others");
        x.flat(1, 0);
        for (int what : new int[] {LEAST, -2, -1, 7, 8, 10, 65536, MOST}) {
            x.none("count", what);
        }
        x.due(1, "count", 0);
        x.due(1023, "count", 6);
    }

    private static void countsOfAnEmptySet() {
        Caller x = new Caller("23: PAIRS and BLOCKS of an empty SET, and of one of a single RECORDING");
        x.flat(1, 0);
        x.flat(1, 5);
        x.flat(2, 95);
        int[][] counts = {{1023, 1, 2, 2}, {0, 0, 0, 0}, {4, 0, 0, 0}, {2, 1, 0, 1}, {1016, 0, 0, 0}, {6, 1, 2, 2}};
        for (int[] row : counts) {
            x.yes("set", row[0]);
            for (int what = 1; what < 4; what++) {
                x.due(row[what], "count", what);
            }
            x.due(3, "count", 0);
        }
    }
}
