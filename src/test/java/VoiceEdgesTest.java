/** Boundary cases of SEGMENTS, VOICES and SPARE: promises 13 to 17. */
public final class VoiceEdgesTest {
    private static final int NONE = Caller.NONE;
    private static final int LEAST = Integer.MIN_VALUE;
    private static final int MOST = Integer.MAX_VALUE;
    // No two of these rows share three places: RECORDINGS of different rows have no SCORE.
    private static final int[][] ROWS = {
        {0, 1, 2}, {0, 1, 3}, {0, 1, 4}, {0, 1, 5}, {0, 2, 3}, {0, 2, 4}, {0, 2, 5}, {0, 3, 4}};

    public static void main(String[] args) {
        atMostEight();
        notTwiceTheSame();
        segmentOfNoSuch();
        segmentOfAnySort();
        clearEmpties();
        clearLeavesTheRest();
        voiceOfNoSuch();
        voiceIsToldByItsFirstSegment();
        eachAVoiceByItself();
        notAboveTheLimit();
        limitFromLeastToMost();
        meanNotAboveTheLimit();
        meansNotSums();
        meansComparedExactly();
        likeOnesTheFirst();
        likeOnesOfJoinedVoices();
        eachTwoHaveAScore();
        againAndAgain();
        voicesAskNoSpeakersAndNoSet();
        voicesAsThingsAreNow();
        spareOfFew();
        spareFromLeastToMost();
        spareOfSumsWithin();
        spareIsNotJoined();
        spareEachTwoHaveAScore();
        spareAsThingsAreNow();
        Caller.end();
    }

    private static Caller houseOf(String about, int recordings) {
        Caller x = new Caller(about);
        for (int number = 0; number < recordings; number++) {
            x.due(number, "record", 0, NONE);
        }
        return x;
    }

    private static void atMostEight() {
        Caller x = houseOf("13: NONE if there are 8", 30);
        for (int k = 0; k < 8; k++) {
            x.due(k + 1, "segment", 29 - k);
        }
        for (int recording : new int[] {0, 21, 22, 29, 30, -1}) {
            x.none("segment", recording);
        }
        x.due(8, "count", 4);
        x.due(8, "voices");
        x.due(7, "voice", 7);
        x.none("voice", 8);
        x.due(160, "spare");
        x.due(8, "clear");
        x.due(1, "segment", 0);
    }

    private static void notTwiceTheSame() {
        Caller x = houseOf("13: (not twice the same)", 9);
        x.due(1, "segment", 3);
        x.none("segment", 3);
        x.due(2, "segment", 0);
        x.none("segment", 0);
        x.none("segment", 3);
        x.due(3, "segment", 8);
        x.none("segment", 3);
        x.none("segment", 8);
        x.due(3, "count", 4);
        x.due(3, "voices");
        x.due(3, "clear");
        x.due(1, "segment", 8);
        x.none("segment", 8);
        x.due(2, "segment", 3);
    }

    private static void segmentOfNoSuch() {
        Caller x = houseOf("13: NONE if there is no such RECORDING", 3);
        for (int recording : new int[] {LEAST, -2, -1, 3, 4, 29, 30, 31, MOST}) {
            x.none("segment", recording);
            x.due(0, "count", 4);
        }
        x.due(1, "segment", 2);
        x.none("segment", 3);
        x.due(3, "record", 0, 0);
        x.due(2, "segment", 3);
    }

    private static void segmentOfAnySort() {
        Caller x = new Caller("13: a list of RECORDINGS, whosever they are");
        x.due(0, "record", 3, NONE);
        x.flat(5, 99);
        x.yes("set", 0);
        x.due(1, "segment", 1);
        x.due(2, "segment", 0);
    }

    private static void clearEmpties() {
        Caller x = houseOf("14: the list becomes empty: how many there were", 8);
        x.due(0, "clear");
        for (int many = 1; many <= 8; many++) {
            for (int k = 0; k < many; k++) {
                x.due(k + 1, "segment", k);
            }
            x.due(many, "clear");
            x.due(0, "count", 4);
            x.none("voice", 0);
            x.due(0, "voices");
            x.due(0, "spare");
            x.due(0, "clear");
        }
    }

    private static void clearLeavesTheRest() {
        Caller x = new Caller("14: only the list of SEGMENTS");
        x.flat(1, 10);
        x.flat(1, 12);
        x.yes("limit", 50);
        x.yes("set", 2);
        x.due(1, "test", 0, 1);
        x.due(1, "segment", 0);
        x.due(2, "segment", 1);
        x.due(2, "clear");
        x.due(2, "count", 0);
        x.due(1, "count", 1);
        x.due(50, "count", 5);
        x.due(2, "count", 6);
        x.due(1, "right", 0);
        x.due(10, "told", 0, 10);
        // The list begins anew: the order of old is gone.
        x.due(1, "segment", 1);
        x.due(2, "segment", 0);
        x.due(0, "voice", 1);
        x.none("voice", 2);
    }

    /** RECORDINGS with these numbers as first TONES, as SEGMENTS; RECORDING 0 is none of them. */
    private static Caller lineOf(String about, int limit, int... tones) {
        Caller x = houseOf(about, 1);
        for (int k = 0; k < tones.length; k++) {
            x.due(k + 1, "segment", x.flat(NONE, tones[k]));
        }
        x.yes("limit", limit);
        return x;
    }

    private static void dueVoices(Caller x, int... voices) {
        int many = 0;
        for (int k = 0; k < voices.length; k++) {
            x.due(voices[k], "voice", k);
            many += voices[k] == k ? 1 : 0;
        }
        x.due(many, "voices");
        x.none("voice", voices.length);
        x.none("voice", -1);
    }

    private static void voiceOfNoSuch() {
        for (int many = 0; many <= 8; many++) {
            Caller x = houseOf("15: NONE if there is none such; of " + many, 10);
            for (int k = 0; k < many; k++) {
                x.due(k + 1, "segment", 9 - k);
            }
            for (int k : new int[] {LEAST, -2, -1, many, many + 1, 8, 9, 10, 30, MOST}) {
                x.none("voice", k);
            }
            for (int k = 0; k < many; k++) {
                x.due(k, "voice", k);
            }
        }
    }

    private static void voiceIsToldByItsFirstSegment() {
        Caller x = new Caller("15: a VOICE is told by its first SEGMENT, in the list");
        for (int number = 0; number < 10; number++) {
            x.flat(NONE, number % 2 * 90);
        }
        int[] list = {9, 2, 7, 4, 5, 0};
        for (int k = 0; k < list.length; k++) {
            x.due(k + 1, "segment", list[k]);
        }
        dueVoices(x, 0, 1, 0, 1, 0, 1);
        // The last two of a list, joined ahead of all others.
        dueVoices(lineOf("15: the first of those that were joined later", 10, 0, 30, 8, 31, 7), 0, 1, 0, 1, 0);
    }

    private static void eachAVoiceByItself() {
        Caller x = houseOf("16: at first each is a VOICE by itself", 8);
        x.due(0, "voices");
        for (int k = 0; k < 8; k++) {
            x.due(k + 1, "segment", k);
            x.due(k + 1, "voices");
        }
        x.yes("limit", 200);
        dueVoices(x, 0, 1, 2, 3, 4, 5, 6, 7);
        dueVoices(lineOf("15: no SEGMENT", 200));
        dueVoices(lineOf("15: one SEGMENT", 0, 5), 0);
    }

    private static void notAboveTheLimit() {
        dueVoices(lineOf("15: if it isn't above the LIMIT: like it", 20, 5, 25), 0, 0);
        dueVoices(lineOf("15: if it isn't above the LIMIT: above", 20, 5, 26), 0, 1);
        dueVoices(lineOf("15: if it isn't above the LIMIT: below", 20, 25, 6), 0, 0);
        Caller x = new Caller("15: SCORES are cut ahead of being compared with the LIMIT");
        // 17 times 6 by 5 places: 20.4, and so 20.
        x.heard(0, NONE, 17, 0, 0, 0, 0);
        x.heard(0, NONE, 0, 0, 0, 0, 0, 0);
        x.due(1, "segment", 0);
        x.due(2, "segment", 1);
        x.due(20, "score", 0, 1);
        dueVoices(x, 0, 0);
        x.yes("limit", 19);
        dueVoices(x, 0, 1);
    }

    private static void limitFromLeastToMost() {
        dueVoices(lineOf("15: LIMIT 0, SCORE 0", 0, 5, 5), 0, 0);
        dueVoices(lineOf("15: LIMIT 0, SCORE 1", 0, 5, 6), 0, 1);
        dueVoices(lineOf("15: LIMIT 0, some like", 0, 5, 6, 5, 6, 7), 0, 1, 0, 1, 4);
        Caller x = new Caller("15: LIMIT 200");
        x.yes("limit", 200);
        x.heard(0, NONE, 0, 0, 0);
        x.heard(0, NONE, 99, 1, 0);
        x.due(1, "segment", 0);
        x.due(2, "segment", 1);
        x.due(200, "score", 0, 1);
        dueVoices(x, 0, 0);
        x.yes("tone", 1, 2, 1);
        x.due(202, "score", 0, 1);
        dueVoices(x, 0, 1);
        // 134 times 6 by 4 places is 201, 133 by 4 places is 199.5 and cut.
        x.yes("tone", 0, 3, 0);
        x.yes("tone", 1, 3, 33);
        x.due(201, "score", 0, 1);
        dueVoices(x, 0, 1);
        x.yes("tone", 1, 3, 32);
        x.due(199, "score", 0, 1);
        dueVoices(x, 0, 0);
    }

    private static void meanNotAboveTheLimit() {
        dueVoices(lineOf("15: mean 15 and 25 by 2, like the LIMIT", 20, 0, 10, 25), 0, 0, 0);
        dueVoices(lineOf("15: mean 20 and a half", 20, 0, 11, 26), 0, 0, 2);
        dueVoices(lineOf("15: mean 20 of seven", 20, 0, 20, 20, 20, 20, 20, 20, 20), 0, 0, 0, 0, 0, 0, 0, 0);
        dueVoices(lineOf("15: mean 20 and a seventh", 20, 0, 20, 20, 20, 20, 20, 20, 21), 0, 1, 1, 1, 1, 1, 1, 1);
        dueVoices(lineOf("15: mean 20 less a seventh", 20, 0, 20, 20, 20, 20, 19, 20, 20), 0, 0, 0, 0, 0, 0, 0, 0);
        dueVoices(lineOf("15: mean 20 and a quarter", 20, 0, 20, 0, 20, 0, 20, 0, 21), 0, 1, 0, 1, 0, 1, 0, 1);
        dueVoices(lineOf("15: mean 20 less a quarter", 20, 0, 20, 0, 20, 1, 20, 0, 20), 0, 0, 0, 0, 0, 0, 0, 0);
        // Not the least or the most of the SCORES between them: 14 and 26, 15 and 27.
        dueVoices(lineOf("15: mean of 14 and 26", 20, 14, 26, 0), 0, 0, 0);
        dueVoices(lineOf("15: mean of 15 and 27", 20, 15, 27, 0), 0, 0, 2);
    }

    private static void meansNotSums() {
        // 40 is 9 from 49, and 10, 9, 8 from 30, 31, 32: like means, the first are those of the VOICE ahead.
        dueVoices(lineOf("15: all of the one with all of the other one, like", 9, 30, 31, 32, 40, 49), 0, 0, 0, 0, 4);
        // 40 is 9 from 49, and 9, 8, 7 (mean 8, sum 24) from 31, 32, 33.
        dueVoices(lineOf("15: means and not sums", 9, 49, 40, 31, 32, 33), 0, 1, 1, 1, 1);
        // 40 is 9 from 49, and 11, 9, 8 (mean 9 and a third, least 8) from 29, 31, 32.
        dueVoices(lineOf("15: means and not least ones", 9, 29, 31, 32, 40, 49), 0, 0, 0, 3, 3);
    }

    private static void meansComparedExactly() {
        // 10 and 11 are joined. 17 is 6 and a half from them, and 6 or 7 from the other one.
        dueVoices(lineOf("15: 6.5 is more than 6", 7, 10, 11, 17, 23), 0, 0, 2, 2);
        dueVoices(lineOf("15: 6.5 is less than 7", 7, 24, 17, 10, 11), 0, 1, 1, 1);
        // 30, 30 and 31 are joined. 40 is 9 and two thirds from them, and 9 and a half from 49 and 50.
        dueVoices(lineOf("15: 9 2/3 is more than 9 1/2", 12, 30, 30, 31, 40, 49, 50), 0, 0, 0, 3, 3, 3);
        // 30, 31 and 31 are joined. 40 is 9 and a third from them, and 9 and a half from 49 and 50.
        dueVoices(lineOf("15: 9 1/3 is less than 9 1/2", 12, 49, 50, 40, 30, 31, 31), 0, 0, 2, 2, 2, 2);
    }

    private static void likeOnesTheFirst() {
        dueVoices(lineOf("15: of like ones the first: 0 1 ahead of 1 2", 10, 0, 10, 20), 0, 0, 2);
        dueVoices(lineOf("15: of like ones the first: 0 1 ahead of 0 2", 10, 10, 0, 20), 0, 0, 2);
        dueVoices(lineOf("15: of like ones the first: 0 2 ahead of 1 2", 10, 0, 20, 10), 0, 1, 0);
        dueVoices(lineOf("15: of like ones the first: 0 3 ahead of 2 3", 10, 0, 50, 20, 10), 0, 1, 2, 0);
        dueVoices(lineOf("15: of like ones the first: 1 2 ahead of 2 3", 10, 70, 0, 10, 20), 0, 1, 1, 3);
        dueVoices(lineOf("15: of like ones the first: 1 2 ahead of 1 3", 10, 70, 10, 0, 20), 0, 1, 1, 3);
        // By places in the list, not by the RECORDINGS' numbers.
        Caller x = new Caller("15: of like ones those with the first SEGMENTS");
        x.flat(NONE, 0);
        x.flat(NONE, 10);
        x.flat(NONE, 20);
        x.yes("limit", 10);
        x.due(1, "segment", 2);
        x.due(2, "segment", 1);
        x.due(3, "segment", 0);
        dueVoices(x, 0, 0, 2);
    }

    private static void likeOnesOfJoinedVoices() {
        // 0 and 3 are joined; 11 is 10 from them and 10 from 21.
        dueVoices(lineOf("15: like ones, a joined VOICE is told by its first", 10, 0, 11, 21, 2), 0, 0, 2, 0);
        // 2 and 3 are joined; 11 is 10 from them and 10 from 21.
        dueVoices(lineOf("15: like ones, by the other one's first too", 10, 11, 21, 0, 2), 0, 0, 2, 2);
        // 1 and 3 are joined; 11 is 10 from them and 10 from 21, which is behind their first one.
        dueVoices(lineOf("15: like ones, the joined VOICE's first is ahead", 10, 11, 0, 21, 2), 0, 0, 2, 0);
    }

    private static void eachTwoHaveAScore() {
        Caller x = new Caller("15: VOICES of which each two have a SCORE");
        x.yes("limit", 200);
        x.due(1, "segment", x.heard(0, NONE, 5, 5, 5));
        x.due(2, "segment", x.heard(0, NONE, NONE, NONE, NONE, 5, 5, 5));
        dueVoices(x, 0, 1);
        x.due(3, "segment", x.heard(0, NONE, 6, 6, 6, 7, 7, 7));
        dueVoices(x, 0, 1, 0);
        x.due(4, "segment", x.heard(0, NONE, 9, 9, 9, 5, 5, 5));
        // 1 and 3 are like each other; then 0 and 2; one of each two has none with the other two.
        dueVoices(x, 0, 1, 0, 1);
        x.yes("tone", 0, 3, 5);
        x.yes("tone", 0, 4, 5);
        dueVoices(x, 0, 1, 0, 1);
        x.yes("tone", 0, 5, 5);
        dueVoices(x, 0, 0, 0, 0);
        Caller y = houseOf("15: two places are no SCORE, and NONE is not the least one", 0);
        y.yes("limit", 0);
        y.due(1, "segment", y.heard(0, NONE, 5, 5));
        y.due(2, "segment", y.heard(0, NONE, 5, 5));
        dueVoices(y, 0, 1);
        y.yes("tone", 0, 2, 5);
        dueVoices(y, 0, 1);
        y.yes("tone", 1, 2, 5);
        dueVoices(y, 0, 0);
    }

    private static void againAndAgain() {
        dueVoices(lineOf("15: again and again, eight to one", 50, 70, 0, 60, 10, 50, 20, 40, 30),
                0, 0, 0, 0, 0, 0, 0, 0);
        dueVoices(lineOf("15: again and again, four pairs", 1, 0, 20, 40, 60, 61, 41, 21, 1), 0, 1, 2, 3, 3, 2, 1, 0);
        dueVoices(lineOf("15: again and again, the least first", 10, 0, 9, 17, 24, 30, 35, 39, 42),
                0, 0, 2, 2, 4, 4, 4, 4);
    }

    private static void voicesAskNoSpeakersAndNoSet() {
        Caller x = new Caller("15: whosever they are known to be");
        x.flat(1, 10);
        x.flat(2, 10);
        x.flat(1, 90);
        for (int k = 0; k < 3; k++) {
            x.due(k + 1, "segment", k);
        }
        dueVoices(x, 0, 0, 2);
        x.yes("set", 0);
        dueVoices(x, 0, 0, 2);
        x.yes("know", 1, NONE);
        dueVoices(x, 0, 0, 2);
    }

    private static void voicesAsThingsAreNow() {
        Caller x = new Caller("16: VOICES as LIMIT, TONES and SPEAKERS are now");
        x.heard(0, 1, 10, 10, 10);
        x.heard(1, 1, 20, 20, 20);
        x.due(1, "segment", 0);
        x.due(2, "segment", 1);
        x.due(1, "voices");
        x.yes("know", 1, 2);
        x.due(60, "score", 0, 1);
        x.due(2, "voices");
        x.yes("limit", 60);
        x.due(1, "voices");
        x.yes("limit", 59);
        x.due(2, "voices");
        x.yes("know", 1, 1);
        x.due(1, "voices");
        x.yes("tone", 1, 0, NONE);
        x.due(2, "voices");
    }

    private static void dueSpare(int want, int limit, int... tones) {
        Caller x = lineOf("17: SPARE of LIMIT " + limit, limit, tones);
        x.due(want, "spare");
        x.due(want, "spare");
    }

    private static void spareOfFew() {
        dueSpare(0, 20);
        dueSpare(0, 200);
        dueSpare(20, 20, 5);
        dueSpare(0, 0, 5);
        dueSpare(200, 200, 5);
        Caller x = houseOf("17: a SEGMENT without TONES is a VOICE too", 1);
        x.due(1, "segment", 0);
        x.due(20, "spare");
    }

    private static void spareFromLeastToMost() {
        dueSpare(39, 20, 5, 24);
        dueSpare(40, 20, 5, 25);
        dueSpare(40, 20, 5, 26);
        dueSpare(0, 0, 5, 5, 5);
        dueSpare(0, 0, 5, 6, 7);
        dueSpare(2, 1, 5, 6);
        dueSpare(1, 1, 5, 5, 5, 5, 5, 5, 5, 5);
        dueSpare(200, 200, 5, 5, 5, 5, 5, 5, 5, 5);
        Caller x = houseOf("17: LIMIT 200 for each of eight VOICES", 8);
        for (int k = 0; k < 8; k++) {
            x.due(k + 1, "segment", k);
        }
        x.yes("limit", 200);
        x.due(1600, "spare");
        x.yes("limit", 0);
        x.due(0, "spare");
    }

    private static void spareOfSumsWithin() {
        // 5, 5 and 10 within one VOICE and 20 for it; two VOICES would be 45.
        dueSpare(40, 20, 0, 5, 10);
        // 7, 7 and 14 and 20 for one VOICE are 48; two VOICES are 7 and 40.
        dueSpare(47, 20, 0, 7, 14);
        // Three like ones have 0, 0, 0; four at two ends are two VOICES.
        dueSpare(40, 20, 0, 90, 0, 90);
        dueSpare(42, 20, 0, 90, 1, 91);
        // 1, 1, 2 twice: 4 and 4.
        dueSpare(48, 20, 0, 50, 1, 51, 2, 52);
        // 0 .. 7 as one: 84; as two fours: 10 and 10 and twice LIMIT; LIMIT 64 is where both are like.
        dueSpare(148, 64, 0, 1, 2, 3, 4, 5, 6, 7);
        dueSpare(149, 65, 0, 1, 2, 3, 4, 5, 6, 7);
        dueSpare(146, 63, 0, 1, 2, 3, 4, 5, 6, 7);
    }

    private static void spareIsNotJoined() {
        // JOINED has all in one, which is 38 and 20; two VOICES are 9 and 40.
        Caller x = lineOf("17: over all ways, not the way of JOINED", 20, 0, 10, 19);
        dueVoices(x, 0, 0, 0);
        x.due(49, "spare");
        // JOINED takes the two in the middle first and then the others to them: 96 and 20; two and two are 20 and 40.
        Caller y = lineOf("17: two and two, though JOINED has the middle ones", 20, 0, 10, 19, 29);
        dueVoices(y, 0, 0, 0, 0);
        y.due(60, "spare");
    }

    private static void spareEachTwoHaveAScore() {
        Caller x = new Caller("17: VOICES of which each two have a SCORE");
        x.due(1, "segment", x.heard(0, NONE, 5, 5, 5));
        x.due(2, "segment", x.heard(0, NONE, 5, 5, 5, 5, 5, 5));
        x.due(3, "segment", x.heard(0, NONE, NONE, NONE, NONE, 6, 6, 6));
        x.yes("limit", 200);
        x.due(400, "spare");
        x.yes("tone", 0, 0, 8);
        x.due(406, "spare");
        x.yes("tone", 0, 0, NONE);
        x.due(406, "spare");
        x.yes("tone", 1, 5, NONE);
        x.due(600, "spare");
        Caller y = new Caller("17: no two of eight have a SCORE");
        for (int k = 0; k < 8; k++) {
            int number = y.call("record", 0, NONE);
            for (int place : ROWS[k]) {
                y.yes("tone", number, place, 50);
            }
            y.due(k + 1, "segment", number);
        }
        y.due(160, "spare");
        y.due(8, "voices");
        y.yes("limit", 200);
        y.due(1600, "spare");
        y.due(8, "voices");
    }

    private static void spareAsThingsAreNow() {
        Caller x = lineOf("17: SPARE as LIMIT, TONES and SEGMENTS are now", 20, 0, 10);
        x.due(30, "spare");
        x.yes("limit", 5);
        x.due(10, "spare");
        x.yes("limit", 30);
        x.due(40, "spare");
        x.yes("tone", 2, 0, 0);
        x.due(30, "spare");
        x.due(3, "segment", 0);
        x.due(60, "spare");
        x.due(3, "clear");
        x.due(0, "spare");
        x.due(1, "segment", 2);
        x.due(30, "spare");
    }
}
