/** Boundary cases of SHIFTS, SCORES, BANDS, BLOCKS and ODDS: promises 7 to 12. */
public final class ScoreEdgesTest {
    private static final int NONE = Caller.NONE;
    private static final int LEAST = Integer.MIN_VALUE;
    private static final int MOST = Integer.MAX_VALUE;
    // No two of these rows share three places: RECORDINGS of different rows have no SCORE.
    private static final int[][] ROWS = {
        {0, 1, 2}, {0, 1, 3}, {0, 1, 4}, {0, 1, 5}, {0, 2, 3}, {0, 2, 4}, {0, 2, 5}, {0, 3, 4},
        {0, 3, 5}, {0, 4, 5}, {1, 2, 3}, {1, 2, 4}, {1, 2, 5}, {1, 3, 4}, {1, 3, 5}};

    public static void main(String[] args) {
        shiftIsCutDown();
        shiftOverAllPairs();
        shiftOverAllSpeakers();
        shiftOfChannelZero();
        shiftNeedsTheSameKnownSpeaker();
        shiftNeedsBothTones();
        shiftNeedsChannelZero();
        shiftOfNoSuch();
        shiftAsThingsAreNow();
        hiddenWithoutAPair();
        hiddenOfNoSuch();
        scoreNeedsThreePlaces();
        scoreIsCut();
        scoreDoesNotCancelOut();
        scoreTheMostThereIs();
        scoreOfHiddenShifts();
        scoreOfNoSuch();
        bandsFromLeastToMost();
        bandNinetyAndMore();
        bandOfNoSuch();
        bandOfPairsOnly();
        bandOfTheMostPairs();
        blockOfOneBand();
        blockOfLikeShares();
        blockAgainAndAgain();
        blocksBehindStay();
        blockOfSharesThatAreNear();
        blockOfAnEmptyBand();
        blockOfNoSuch();
        oddsByBands();
        oddsBelowZero();
        oddsReach();
        oddsOfNoSuch();
        Caller.end();
    }

    /** The SHIFT of CHANNEL 1 by one RECORDING of CHANNEL 0 and some of CHANNEL 1, at place 3. */
    private static void dueShift(int want, int toneOfZero, int... tones) {
        Caller x = new Caller("7: the mean, cut down to whole (also below 0)");
        x.heard(0, 4, NONE, NONE, NONE, toneOfZero);
        for (int tone : tones) {
            x.heard(1, 4, NONE, NONE, NONE, tone);
        }
        x.due(want, "shift", 1, 3);
        x.no("hidden", 1, 3);
        x.due(0, "shift", 1, 2);
        x.due(0, "shift", 1, 4);
    }

    private static void shiftIsCutDown() {
        dueShift(99, 0, 99);
        dueShift(-99, 99, 0);
        dueShift(0, 0, 0);
        dueShift(0, 99, 99);
        dueShift(1, 50, 51);
        dueShift(-1, 50, 49);
        dueShift(0, 50, 50, 51);
        dueShift(-1, 50, 50, 49);
        dueShift(0, 50, 51, 51, 50);
        dueShift(-1, 50, 50, 50, 49);
        dueShift(-1, 50, 49, 49, 50);
        dueShift(1, 50, 51, 52);
        dueShift(-2, 50, 49, 48);
        dueShift(-1, 50, 49, 49);
        dueShift(0, 50, 51, 49);
        dueShift(0, 50, 52, 49, 49);
        dueShift(-1, 50, 51, 48);
        dueShift(-99, 99, 0, 0, 0, 1);
        dueShift(98, 0, 99, 99, 99, 98);
    }

    private static void shiftOverAllPairs() {
        Caller x = new Caller("7: over all pairs of RECORDINGS a and b");
        // Channel 1: 10, 5, 20, 15 and so 50 by 4; channel 2: -10, -20, -5, -15.
        x.heard(0, 1, 0, 10);
        x.heard(1, 1, 10);
        x.heard(2, 1, NONE, 0);
        x.heard(0, 1, 5, 20);
        x.heard(1, 1, 20);
        x.heard(2, 1, NONE, 5);
        x.due(12, "shift", 1, 0);
        x.due(-13, "shift", 2, 1);
        x.due(0, "shift", 1, 1);
        x.due(0, "shift", 2, 0);
        x.due(0, "shift", 3, 0);
    }

    private static void shiftOverAllSpeakers() {
        Caller x = new Caller("7: each pair counts once, whosever it is");
        // 10, 10 and 1: 21 by 3; the mean of the two SPEAKERS' means would be 5.
        x.heard(0, 1, 0);
        x.heard(0, 1, 0);
        x.heard(1, 1, 10);
        x.heard(0, 2, 0);
        x.heard(1, 2, 1);
        x.due(7, "shift", 1, 0);
        x.yes("set", 0);
        x.due(7, "shift", 1, 0);
        x.no("hidden", 1, 0);
    }

    private static void shiftOfChannelZero() {
        Caller x = new Caller("7: (but 0, whose is 0)");
        x.heard(0, 1, 10, 99, 0);
        x.heard(0, 1, 30, 0, 99);
        x.heard(1, 1, 50, 50, 50);
        for (int place = 0; place < 6; place++) {
            x.due(0, "shift", 0, place);
            x.no("hidden", 0, place);
        }
        x.due(30, "shift", 1, 0);
        x.due(0, "shift", 1, 1);
    }

    private static void shiftNeedsTheSameKnownSpeaker() {
        Caller x = new Caller("7: with the same known SPEAKER");
        x.heard(0, NONE, 10);
        x.heard(1, NONE, 20);
        x.due(0, "shift", 1, 0);
        x.yes("hidden", 1, 0);
        x.yes("know", 0, 0);
        x.due(0, "shift", 1, 0);
        x.yes("know", 1, 9);
        x.due(0, "shift", 1, 0);
        x.yes("hidden", 1, 0);
        x.yes("know", 1, 0);
        x.due(10, "shift", 1, 0);
        x.no("hidden", 1, 0);
        x.yes("know", 0, 9);
        x.due(0, "shift", 1, 0);
        x.yes("know", 1, 9);
        x.due(10, "shift", 1, 0);
        x.yes("know", 1, NONE);
        x.due(0, "shift", 1, 0);
        x.yes("hidden", 1, 0);
    }

    private static void shiftNeedsBothTones() {
        Caller x = new Caller("7: of which neither TONE there is LOST");
        x.heard(0, 1, 10, 10, NONE, NONE, 0, 5);
        x.heard(3, 1, 20, NONE, 20, NONE, 5, 0);
        int[] shifts = {10, 0, 0, 0, 5, -5};
        for (int place = 0; place < 6; place++) {
            x.due(shifts[place], "shift", 3, place);
            x.due(shifts[place] == 0 ? 1 : 0, "hidden", 3, place);
        }
        x.heard(0, 1, NONE, 20, 20, 20, NONE, NONE);
        x.due(10, "shift", 3, 0);
        x.due(0, "shift", 3, 1);
        x.due(0, "shift", 3, 2);
        x.no("hidden", 3, 2);
        x.yes("hidden", 3, 3);
    }

    private static void shiftNeedsChannelZero() {
        Caller x = new Caller("7: b of CHANNEL 0");
        x.heard(1, 1, 10);
        x.heard(2, 1, 20);
        x.heard(3, 1, 40);
        for (int channel = 1; channel < 4; channel++) {
            x.due(0, "shift", channel, 0);
            x.yes("hidden", channel, 0);
        }
        x.heard(0, 1, 15);
        x.due(-5, "shift", 1, 0);
        x.due(5, "shift", 2, 0);
        x.due(25, "shift", 3, 0);
    }

    private static Caller houseWithAllShifts(String about) {
        Caller x = new Caller(about);
        x.heard(0, 1, 50, 50, 50, 50, 50, 50);
        x.heard(1, 1, 51, 52, 53, 54, 55, 56);
        x.heard(2, 1, 61, 62, 63, 64, 65, 66);
        x.heard(3, 1, 71, 72, 73, 74, 75, 76);
        return x;
    }

    private static void shiftOfNoSuch() {
        Caller x = houseWithAllShifts("7: -2147483648 if there is no such CHANNEL or place");
        for (int wrong : new int[] {LEAST, -7, -6, -1, 6, 7, 12, 24, 715827883, MOST}) {
            for (int right = 0; right < 4; right++) {
                x.due(LEAST, "shift", right, wrong);
                x.due(LEAST, "shift", wrong, right);
            }
            x.due(LEAST, "shift", wrong, wrong);
        }
        x.due(LEAST, "shift", 4, 0);
        x.due(LEAST, "shift", 4, 5);
        x.due(LEAST, "shift", 5, -6);
        x.due(LEAST, "shift", 4, -1);
        x.due(LEAST, "shift", -1, 6);
        x.due(6, "shift", 1, 5);
        x.due(26, "shift", 3, 5);
    }

    private static void shiftAsThingsAreNow() {
        Caller x = houseWithAllShifts("7: the SHIFT as TONES are now");
        x.yes("tone", 0, 0, 40);
        x.due(11, "shift", 1, 0);
        x.due(21, "shift", 2, 0);
        x.due(31, "shift", 3, 0);
        x.due(2, "shift", 1, 1);
        x.yes("tone", 0, 0, NONE);
        x.due(0, "shift", 1, 0);
        x.yes("hidden", 3, 0);
        x.yes("tone", 3, 5, 0);
        x.due(-50, "shift", 3, 5);
        x.due(16, "shift", 2, 5);
    }

    private static void hiddenWithoutAPair() {
        Caller x = new Caller("8: HIDDEN if there is no such pair");
        x.heard(0, 1, 0, 5, NONE);
        x.heard(2, 1, 0, NONE, 5);
        x.no("hidden", 2, 0);
        x.yes("hidden", 2, 1);
        x.yes("hidden", 2, 2);
        x.yes("hidden", 2, 5);
        x.yes("hidden", 1, 0);
        x.yes("hidden", 3, 0);
        x.yes("tone", 1, 1, 5);
        x.no("hidden", 2, 1);
        x.yes("tone", 1, 1, NONE);
        x.yes("hidden", 2, 1);
        x.yes("tone", 0, 2, 99);
        x.no("hidden", 2, 2);
        x.yes("know", 0, 2);
        x.yes("hidden", 2, 0);
        x.yes("know", 1, 2);
        x.no("hidden", 2, 0);
        x.yes("know", 1, NONE);
        x.yes("know", 0, NONE);
        x.yes("hidden", 2, 0);
    }

    private static void hiddenOfNoSuch() {
        Caller x = new Caller("8: false if there is none such");
        for (int wrong : new int[] {LEAST, -7, -1, 6, 7, 24, 715827883, MOST}) {
            for (int right = 0; right < 4; right++) {
                x.no("hidden", right, wrong);
                x.no("hidden", wrong, right);
            }
        }
        for (int place = -1; place <= 6; place++) {
            x.no("hidden", 4, place);
            x.no("hidden", -1, place);
            x.no("hidden", 0, place);
        }
        x.yes("hidden", 1, 0);
        x.yes("hidden", 3, 5);
    }

    private static void scoreNeedsThreePlaces() {
        Caller x = new Caller("9: NONE if there are fewer than three");
        x.heard(0, 1, 5, 5, 5, 5, 5, NONE);
        x.heard(0, 1, NONE, NONE, 6, 6, 6, 6);
        x.heard(0, 1, 7, NONE, NONE, 7, 7, 7);
        x.heard(0, 1, 0, 0);
        x.heard(0, 1);
        x.due(6, "score", 0, 1);
        x.due(6, "score", 1, 2);
        x.due(12, "score", 0, 2);
        x.none("score", 0, 3);
        x.none("score", 3, 0);
        x.none("score", 0, 4);
        x.none("score", 3, 4);
        x.yes("tone", 3, 4, 0);
        x.due(30, "score", 0, 3);
        x.yes("tone", 0, 4, NONE);
        x.none("score", 0, 3);
        x.none("score", 0, 1);
        x.none("score", 2, 0);
    }

    /** The SCORE of a RECORDING whose TONES are all 0 and one with TONES at as many places as there are here. */
    private static void dueScore(int want, int... tones) {
        Caller x = new Caller("9: times 6 by how many places there are (cut)");
        x.heard(0, 1, 0, 0, 0, 0, 0, 0);
        x.heard(0, 2, tones);
        x.due(want, "score", 0, 1);
        x.due(want, "score", 1, 0);
    }

    private static void scoreIsCut() {
        dueScore(0, 0, 0, 0);
        dueScore(2, 1, 0, 0);
        dueScore(594, 99, 99, 99);
        dueScore(1, 1, 0, 0, 0);
        dueScore(3, 2, 0, 0, 0);
        dueScore(4, 1, 1, 1, 0);
        dueScore(594, 99, 99, 99, 99);
        dueScore(1, 1, 0, 0, 0, 0);
        dueScore(2, 1, 1, 0, 0, 0);
        dueScore(3, 1, 1, 1, 0, 0);
        dueScore(4, 1, 1, 1, 1, 0);
        dueScore(10, 9, 0, 0, 0, 0);
        dueScore(1, 1, 0, 0, 0, 0, 0);
        dueScore(594, 99, 99, 99, 99, 99, 99);
        dueScore(8, 2, NONE, 2, NONE, 0, NONE);
        dueScore(9, NONE, 2, 3, NONE, 1, 0);
        dueScore(NONE, 9, NONE, NONE, NONE, NONE, 9);
        dueScore(NONE, NONE, NONE, 9);
    }

    private static void scoreDoesNotCancelOut() {
        Caller x = new Caller("9: the sum of how much TONES differ");
        x.heard(0, 1, 50, 50, 50);
        x.heard(0, 1, 55, 45, 50);
        x.heard(0, 1, 45, 55, 50);
        x.due(20, "score", 0, 1);
        x.due(20, "score", 2, 0);
        x.due(40, "score", 1, 2);
        x.due(40, "score", 2, 1);
    }

    /** The SHIFT of CHANNEL 1 is -99 and that of CHANNEL 2 is 99, at all places. */
    private static Caller houseOfFarShifts(String about) {
        Caller x = new Caller(about);
        x.heard(0, 1, 99, 99, 99, 99, 99, 99);
        x.heard(1, 1, 0, 0, 0, 0, 0, 0);
        x.heard(0, 2, 0, 0, 0, 0, 0, 0);
        x.heard(2, 2, 99, 99, 99, 99, 99, 99);
        x.heard(1, 5, 99, 99, 99, 99, 99, 99);
        x.heard(2, 6, 0, 0, 0, 0, 0, 0);
        return x;
    }

    private static void scoreTheMostThereIs() {
        Caller x = houseOfFarShifts("9: each less the SHIFT of its CHANNEL there");
        x.due(-99, "shift", 1, 0);
        x.due(99, "shift", 2, 5);
        x.due(0, "score", 0, 1);
        x.due(0, "score", 2, 3);
        x.due(594, "score", 0, 4);
        x.due(1188, "score", 2, 4);
        x.due(594, "score", 1, 4);
        x.due(594, "score", 2, 5);
        x.due(1188, "score", 0, 5);
        x.due(1782, "score", 4, 5);
        x.due(1782, "score", 5, 4);
    }

    private static void scoreOfHiddenShifts() {
        Caller x = new Caller("9: 0 if there is no such pair, place by place");
        x.heard(0, 1, 10, 10, 10);
        x.heard(1, 1, 20, 20);
        x.heard(1, NONE, 20, 20, 20);
        x.due(20, "score", 0, 2);
        x.yes("tone", 1, 2, 25);
        x.due(10, "score", 0, 2);
        x.yes("know", 1, NONE);
        x.due(60, "score", 0, 2);
        x.due(10, "score", 1, 2);
    }

    private static void scoreOfNoSuch() {
        Caller x = new Caller("9: NONE also, if there are none such, or both are one");
        x.flat(1, 0);
        x.flat(1, 0);
        for (int wrong : new int[] {LEAST, -1, 2, 3, 29, 30, 715827883, MOST}) {
            x.none("score", 0, wrong);
            x.none("score", wrong, 0);
            x.none("score", wrong, wrong);
            x.none("score", wrong, -1);
        }
        x.none("score", 0, 0);
        x.none("score", 1, 1);
        x.due(0, "score", 0, 1);
    }

    private static void bandsFromLeastToMost() {
        for (int band = 0; band < 10; band++) {
            for (int score : new int[] {band * 10, band * 10 + 9}) {
                Caller x = new Caller("10: SCORES 0 .. 9, 10 .. 19, .., 90 and more; a SCORE of " + score);
                x.flat(1, 0);
                x.flat(1, score);
                x.flat(2, 0);
                x.yes("set", 2);
                for (int other = 0; other < 10; other++) {
                    x.due(other == band ? 1 : 0, "band", other, 0);
                    x.due(0, "band", other, 1);
                }
                x.yes("know", 0, 2);
                x.yes("know", 2, NONE);
                x.yes("set", 1023);
                for (int other = 0; other < 10; other++) {
                    x.due(0, "band", other, 0);
                    x.due(other == band ? 1 : 0, "band", other, 1);
                }
            }
        }
    }

    private static void bandNinetyAndMore() {
        Caller x = houseOfFarShifts("10: 90 and more");
        x.yes("set", 1 << 5 | 1 << 6);
        x.due(1, "band", 9, 1);
        x.due(0, "band", 8, 1);
        x.due(1, "count", 2);
        x.yes("know", 5, 5);
        x.due(1, "band", 9, 0);
        x.due(0, "band", 9, 1);
        x.due(9, "block", 9, 0);
        x.due(9, "block", 9, 1);
        Caller y = new Caller("10: 90 and more: 100 is of no BAND of its own, nor 110");
        y.heard(0, 1, 0, 0, 0);
        y.heard(0, 1, 50, 0, 0);
        y.due(100, "score", 0, 1);
        y.due(1, "band", 9, 0);
        y.yes("tone", 1, 0, 55);
        y.due(110, "score", 0, 1);
        y.due(1, "band", 9, 0);
        y.due(0, "band", 1, 0);
        y.due(0, "band", 0, 0);
        y.yes("tone", 1, 0, 45);
        y.due(90, "score", 0, 1);
        y.due(1, "band", 9, 0);
        y.yes("tone", 1, 0, 44);
        y.due(88, "score", 0, 1);
        y.due(0, "band", 9, 0);
        y.due(1, "band", 8, 0);
    }

    private static void bandOfNoSuch() {
        Caller x = new Caller("10: NONE for others, or no such BAND");
        x.flat(1, 0);
        x.flat(1, 0);
        x.flat(2, 99);
        for (int wrong : new int[] {LEAST, -10, -2, -1, 10, 11, 90, 65536, MOST}) {
            x.none("band", wrong, 0);
            x.none("band", wrong, 1);
            x.none("band", 0, wrong);
            x.none("band", 9, wrong);
            x.none("band", wrong, wrong);
        }
        for (int what = 2; what < 5; what++) {
            x.none("band", 0, what);
        }
        x.due(1, "band", 0, 0);
        x.due(2, "band", 9, 1);
    }

    private static void bandOfPairsOnly() {
        Caller x = new Caller("10: two RECORDINGS with known SPEAKERS of the SET that have a SCORE");
        x.heard(0, 0, 7, 7, 7);
        x.heard(0, 9, 7, 7, 7);
        x.due(1, "band", 0, 1);
        x.yes("set", 1);
        x.due(0, "band", 0, 1);
        x.yes("set", 512);
        x.due(0, "band", 0, 1);
        x.yes("set", 513);
        x.due(1, "band", 0, 1);
        x.yes("know", 1, 0);
        x.due(0, "band", 0, 1);
        x.due(1, "band", 0, 0);
        x.yes("know", 1, NONE);
        x.due(0, "band", 0, 0);
        x.due(0, "band", 0, 1);
        x.yes("know", 0, NONE);
        x.due(0, "band", 0, 0);
        x.yes("know", 0, 9);
        x.yes("know", 1, 9);
        x.due(1, "band", 0, 0);
        x.yes("tone", 0, 2, NONE);
        x.due(0, "band", 0, 0);
        x.none("block", 0, 0);
        x.yes("tone", 0, 2, 0);
        x.due(1, "band", 1, 0);
    }

    private static void bandOfTheMostPairs() {
        Caller x = new Caller("10: all two of 30 RECORDINGS");
        for (int number = 0; number < 30; number++) {
            x.heard(0, 1, 0, 0, 0);
        }
        x.due(435, "band", 0, 0);
        x.due(435, "count", 1);
        x.due(0, "count", 2);
        for (int number = 0; number < 15; number++) {
            x.yes("know", number, 2);
        }
        x.due(210, "band", 0, 0);
        x.due(225, "band", 0, 1);
        x.due(210, "odds", 0, 0);
        x.due(225, "odds", 0, 2);
    }

    /** Two RECORDINGS that have an even SCORE with each other, and none with those of other rows. */
    private static void twoOf(Caller x, int row, int score, boolean same) {
        int a = x.call("record", 0, 1);
        int b = x.call("record", 0, same ? 1 : 2);
        int left = score / 2;
        for (int place : ROWS[row]) {
            int step = Math.min(left, 99);
            x.yes("tone", a, place, 0);
            x.yes("tone", b, place, step);
            left -= step;
        }
        x.due(score, "score", a, b);
    }

    /** Blocks as rows of their first and last BANDS; what is in no row is of no BLOCK, nor what is empty in between. */
    private static void dueBlocks(Caller x, int[] bandsWithPairs, int[]... blocks) {
        x.due(blocks.length, "count", 3);
        for (int band = 0; band < 10; band++) {
            int[] due = {NONE, NONE};
            for (int[] block : blocks) {
                if (band >= block[0] && band <= block[1] && contains(bandsWithPairs, band)) {
                    due = block;
                }
            }
            x.due(due[0], "block", band, 0);
            x.due(due[1], "block", band, 1);
            for (int what = 0; what < 4 && due[0] == NONE; what++) {
                x.none("odds", band * 10 + what, what);
            }
        }
    }

    private static boolean contains(int[] bands, int band) {
        for (int one : bands) {
            if (one == band) {
                return true;
            }
        }
        return false;
    }

    private static void blockOfOneBand() {
        for (int band : new int[] {0, 4, 9}) {
            for (boolean same : new boolean[] {true, false}) {
                Caller x = new Caller("11: at first each BAND in which there is a PAIR is one; " + band);
                twoOf(x, 0, band * 10, same);
                dueBlocks(x, new int[] {band}, new int[] {band, band});
            }
        }
        Caller x = new Caller("11: SAME ahead of OTHER is in order, the other way it isn't");
        twoOf(x, 0, 0, true);
        twoOf(x, 1, 10, false);
        dueBlocks(x, new int[] {0, 1}, new int[] {0, 0}, new int[] {1, 1});
        Caller y = new Caller("11: OTHER ahead of SAME is out of order");
        twoOf(y, 0, 0, false);
        twoOf(y, 1, 10, true);
        dueBlocks(y, new int[] {0, 1}, new int[] {0, 1});
    }

    private static void blockOfLikeShares() {
        Caller x = new Caller("11: not less than that of the one ahead: like shares of SAME");
        twoOf(x, 0, 0, true);
        twoOf(x, 1, 90, true);
        dueBlocks(x, new int[] {0, 9}, new int[] {0, 9});
        twoOf(x, 2, 40, false);
        twoOf(x, 3, 60, false);
        twoOf(x, 4, 60, false);
        // 1/1, 0/1, 0/2, 1/1: the last one takes both ahead of it with it, 1/4.
        dueBlocks(x, new int[] {0, 4, 6, 9}, new int[] {0, 0}, new int[] {4, 9});
        Caller y = new Caller("11: not less than that of the one ahead: none SAME in either");
        twoOf(y, 0, 30, false);
        twoOf(y, 1, 60, false);
        twoOf(y, 2, 60, false);
        dueBlocks(y, new int[] {3, 6}, new int[] {3, 6});
        Caller z = new Caller("11: not less than that of the one ahead: 1 by 2 and 2 by 4");
        twoOf(z, 0, 10, true);
        twoOf(z, 1, 10, false);
        for (int row = 2; row < 6; row++) {
            twoOf(z, row, 20, row < 4);
        }
        dueBlocks(z, new int[] {1, 2}, new int[] {1, 2});
        twoOf(z, 6, 20, false);
        dueBlocks(z, new int[] {1, 2}, new int[] {1, 1}, new int[] {2, 2});
    }

    private static void blockAgainAndAgain() {
        Caller x = new Caller("11: as long as two side by side are out of order");
        // 2/2, 1/2, 1/3, 0/1: all in order; a SAME at the end puts 2/4 together, that with 1/2, and 1 by 1 stays ahead.
        twoOf(x, 0, 0, true);
        twoOf(x, 1, 0, true);
        twoOf(x, 2, 20, true);
        twoOf(x, 3, 20, false);
        twoOf(x, 4, 50, true);
        twoOf(x, 5, 50, false);
        twoOf(x, 6, 50, false);
        twoOf(x, 7, 70, false);
        dueBlocks(x, new int[] {0, 2, 5, 7}, new int[] {0, 0}, new int[] {2, 2}, new int[] {5, 5}, new int[] {7, 7});
        twoOf(x, 8, 90, true);
        // 0/1 and 1/1 are 1/2: not less than 1/3, and with it 2/5: less than 1/2.
        dueBlocks(x, new int[] {0, 2, 5, 7, 9}, new int[] {0, 0}, new int[] {2, 2}, new int[] {5, 9});
        twoOf(x, 9, 90, true);
        // 2/3, with 1/3: 3/6, like the 1/2 ahead of it.
        dueBlocks(x, new int[] {0, 2, 5, 7, 9}, new int[] {0, 0}, new int[] {2, 9});
        x.due(2, "odds", 0, 0);
        x.due(4, "odds", 95, 0);
        x.due(4, "odds", 20, 2);
        Caller y = new Caller("11: all ten BANDS are one BLOCK, or ten");
        for (int band = 0; band < 10; band++) {
            twoOf(y, band, band * 10, band == 9);
        }
        dueBlocks(y, new int[] {0, 1, 2, 3, 4, 5, 6, 7, 8, 9}, new int[] {0, 9});
        y.yes("know", 1, 1);
        // 1/1, then 1/9 of all others.
        dueBlocks(y, new int[] {0, 1, 2, 3, 4, 5, 6, 7, 8, 9}, new int[] {0, 0}, new int[] {1, 9});
    }

    private static void blocksBehindStay() {
        Caller x = new Caller("11: the first such two ahead of others, and those behind stay as they are");
        // 1/2 and 1/2 are put together; then 1/3, 0/2.
        twoOf(x, 0, 0, true);
        twoOf(x, 1, 0, false);
        twoOf(x, 2, 10, true);
        twoOf(x, 3, 10, false);
        twoOf(x, 4, 40, true);
        twoOf(x, 5, 40, false);
        twoOf(x, 6, 40, false);
        twoOf(x, 7, 80, false);
        twoOf(x, 8, 80, false);
        dueBlocks(x, new int[] {0, 1, 4, 8}, new int[] {0, 1}, new int[] {4, 4}, new int[] {8, 8});
        int[][] scoresAndCounts = {{5, 2, 2}, {15, 2, 2}, {45, 1, 2}, {85, 0, 2}};
        for (int[] row : scoresAndCounts) {
            x.due(row[1], "odds", row[0], 0);
            x.due(row[2], "odds", row[0], 2);
        }
        // Two twos are out of order: 0 and 1, and 8 and 9 (0/2 and 0/1), with 4 by itself in between.
        twoOf(x, 9, 90, false);
        dueBlocks(x, new int[] {0, 1, 4, 8, 9}, new int[] {0, 1}, new int[] {4, 4}, new int[] {8, 9});
        x.due(3, "odds", 80, 2);
        // 8 and 9 are 2/5 then: not less than the 1/3 ahead of them; with that 3/8, less than 2/4.
        twoOf(x, 10, 90, true);
        twoOf(x, 11, 90, true);
        dueBlocks(x, new int[] {0, 1, 4, 8, 9}, new int[] {0, 1}, new int[] {4, 9});
        x.due(2, "odds", 0, 0);
        x.due(3, "odds", 40, 0);
        x.due(5, "odds", 99, 2);
    }

    /** Some RECORDINGS with like TONES (SCORE 0), and some that are 10 from those and 20 from each other. */
    private static Caller houseOfNearShares(String about, int middle, int middleOfOne, int corners, int cornersOfOne) {
        Caller x = new Caller(about);
        for (int i = 0; i < middle; i++) {
            x.heard(0, i < middleOfOne ? 1 : 2, 50, 50, 50, 50, 50, 50);
        }
        for (int i = 0; i < corners; i++) {
            int number = x.heard(0, i < cornersOfOne ? 1 : 2, 50, 50, 50, 50, 50, 50);
            x.yes("tone", number, i / 2, i % 2 == 0 ? 40 : 60);
        }
        return x;
    }

    private static void blockOfSharesThatAreNear() {
        // 27/55, 41/88 and 13/28: .4909, .4659 and .4643.
        Caller x = houseOfNearShares("11: 13 by 28 is less than 41 by 88", 11, 4, 8, 5);
        x.due(27, "band", 0, 0);
        x.due(28, "band", 0, 1);
        x.due(41, "band", 1, 0);
        x.due(47, "band", 1, 1);
        x.due(13, "band", 2, 0);
        x.due(15, "band", 2, 1);
        dueBlocks(x, new int[] {0, 1, 2}, new int[] {0, 0}, new int[] {1, 1}, new int[] {2, 2});
        // 70/136, 63/136 and 13/28: .5147, .4632 and .4643.
        Caller y = houseOfNearShares("11: 13 by 28 is not less than 63 by 136", 17, 6, 8, 5);
        y.due(70, "band", 0, 0);
        y.due(63, "band", 1, 0);
        y.due(13, "band", 2, 0);
        dueBlocks(y, new int[] {0, 1, 2}, new int[] {0, 0}, new int[] {1, 2});
        y.due(76, "odds", 10, 0);
        y.due(88, "odds", 29, 2);
    }

    private static void blockOfAnEmptyBand() {
        Caller x = new Caller("11: an empty BAND is of no BLOCK");
        twoOf(x, 0, 20, false);
        twoOf(x, 1, 50, true);
        dueBlocks(x, new int[] {2, 5}, new int[] {2, 5});
        x.none("block", 3, 0);
        x.none("block", 4, 1);
        x.none("odds", 30, 1);
        x.none("odds", 49, 4);
        x.yes("set", 2);
        dueBlocks(x, new int[] {5}, new int[] {5, 5});
        x.yes("set", 1);
        dueBlocks(x, new int[] {});
        x.yes("set", 1023);
        x.yes("tone", 3, 0, NONE);
        dueBlocks(x, new int[] {2}, new int[] {2, 2});
    }

    private static void blockOfNoSuch() {
        Caller x = new Caller("11: NONE for others");
        twoOf(x, 0, 0, true);
        twoOf(x, 1, 90, true);
        for (int wrong : new int[] {LEAST, -10, -2, -1, 10, 11, 90, 65536, MOST}) {
            x.none("block", wrong, 0);
            x.none("block", wrong, 1);
            x.none("block", 0, wrong);
            x.none("block", 9, wrong);
        }
        for (int what = 2; what < 5; what++) {
            x.none("block", 0, what);
        }
        x.due(0, "block", 9, 0);
        x.due(9, "block", 0, 1);
    }

    private static void oddsByBands() {
        Caller x = new Caller("12: those of the BLOCK in which its BAND is");
        twoOf(x, 0, 14, true);
        twoOf(x, 1, 16, true);
        twoOf(x, 2, 18, false);
        twoOf(x, 3, 90, false);
        for (int score : new int[] {10, 11, 19}) {
            int[] due = {2, 2, 1, 2, 1};
            for (int what = 0; what < due.length; what++) {
                x.due(due[what], "odds", score, what);
            }
        }
        for (int score : new int[] {90, 99, 100, 119, 1000, 1782, MOST - 1, MOST}) {
            int[] due = {0, 2, 1, 2, 0};
            for (int what = 0; what < due.length; what++) {
                x.due(due[what], "odds", score, what);
            }
        }
        for (int score : new int[] {0, 9, 20, 29, 80, 89}) {
            for (int what = 0; what < 5; what++) {
                x.none("odds", score, what);
            }
        }
    }

    private static void oddsBelowZero() {
        Caller x = new Caller("12: NONE if the SCORE is below 0");
        twoOf(x, 0, 0, true);
        twoOf(x, 1, 90, true);
        for (int score : new int[] {LEAST, LEAST + 9, -100, -90, -11, -10, -9, -5, -1}) {
            for (int what = -1; what < 6; what++) {
                x.none("odds", score, what);
            }
        }
        x.due(2, "odds", 0, 0);
    }

    private static void oddsReach() {
        Caller x = new Caller("12: they REACH, if neither is 0");
        twoOf(x, 0, 0, true);
        x.due(0, "odds", 0, 4);
        x.due(1, "odds", 0, 1);
        x.due(0, "odds", 0, 3);
        twoOf(x, 1, 50, false);
        // Two BLOCKS: each of them has but the one sort, though all in all there are both.
        x.due(0, "odds", 0, 4);
        x.due(0, "odds", 50, 4);
        x.due(1, "odds", 50, 1);
        x.due(1, "odds", 50, 3);
        twoOf(x, 2, 50, true);
        x.due(0, "odds", 0, 4);
        x.due(1, "odds", 50, 4);
        x.yes("set", 2);
        x.due(0, "odds", 50, 4);
        x.due(2, "odds", 50, 0);
        x.due(0, "odds", 50, 3);
        Caller y = new Caller("12: no SAME at all");
        twoOf(y, 0, 30, false);
        int[] due = {0, 0, 1, 1, 0};
        for (int what = 0; what < due.length; what++) {
            y.due(due[what], "odds", 30, what);
        }
    }

    private static void oddsOfNoSuch() {
        Caller x = new Caller("12: NONE for others");
        twoOf(x, 0, 0, true);
        twoOf(x, 1, 0, false);
        for (int what : new int[] {LEAST, -2, -1, 5, 6, 10, 65536, MOST}) {
            x.none("odds", 0, what);
            x.none("odds", 90, what);
            x.none("odds", -1, what);
        }
        x.due(1, "odds", 0, 4);
    }
}
