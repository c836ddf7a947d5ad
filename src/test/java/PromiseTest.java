/** Each promise by hand: ordinary inputs, the edges that the document names, and wrong inputs. */
public final class PromiseTest {
    private static final int NONE = VoiceHouse.NONE;
    private static final int[] FAR_OFF = {Integer.MIN_VALUE, -1000, 1000, Integer.MAX_VALUE};
    // No two of these rows share three places: RECORDINGS of different rows have no SCORE.
    private static final int[][] ROWS = {
        {0, 1, 2}, {0, 1, 3}, {0, 1, 4}, {0, 1, 5}, {0, 2, 3}, {0, 2, 4}, {0, 2, 5}, {0, 3, 4},
        {0, 3, 5}, {0, 4, 5}, {1, 2, 3}, {1, 2, 4}, {1, 2, 5}, {1, 3, 4}, {1, 3, 5}};

    private static int passed = 0;
    private static int wrong = 0;

    public static void main(String[] args) {
        promise1NewObject();
        promise2Record();
        promise3Tone();
        promise4Know();
        promise5Set();
        promise6Limit();
        promise7Shift();
        promise8Hidden();
        promise9Score();
        promise10Band();
        promise11Block();
        promise12Odds();
        promise13Segment();
        promise14Clear();
        promise15Voice();
        promise16Voices();
        promise17Spare();
        promise18Lined();
        promise19Rank();
        promise20Test();
        promise21Right();
        promise22Told();
        promise23Count();
        System.out.println(passed + " answers as due, " + wrong + " not");
        if (wrong != 0) {
            System.exit(1);
        }
    }

    private static void promise1NewObject() {
        VoiceHouse x = new VoiceHouse();
        due("NONE", VoiceHouse.NONE, -1);
        int[] counts = {0, 0, 0, 0, 0, 20, 1023};
        for (int what = 0; what < counts.length; what++) {
            due("1: count " + what, x.count(what), counts[what]);
        }
        for (int what = 0; what < 5; what++) {
            due("1: right " + what, x.right(what), 0);
        }
        due("1: told", x.told(0, 0), NONE);
        due("1: voices", x.voices(), 0);
        due("1: spare", x.spare(), 0);
        due("1: shift", x.shift(3, 5), 0);
        due("1: block", x.block(0, 0), NONE);
        due("1: lined", x.lined(0, 0), NONE);
        VoiceHouse other = new VoiceHouse();
        other.record(0, 0);
        due("1: objects are apart", x.count(0), 0);
    }

    private static void promise2Record() {
        VoiceHouse x = new VoiceHouse();
        for (int channel : new int[] {-1, 4}) {
            due("2: channel " + channel, x.record(channel, 0), NONE);
        }
        for (int speaker : new int[] {-2, 10}) {
            due("2: speaker " + speaker, x.record(0, speaker), NONE);
        }
        for (int far : FAR_OFF) {
            due("2: far channel", x.record(far, 0), NONE);
            due("2: far speaker", x.record(0, far), NONE);
        }
        due("2: nothing came", x.count(0), 0);
        due("2: first", x.record(0, NONE), 0);
        due("2: second", x.record(3, 9), 1);
        for (int place = 0; place < 6; place++) {
            due("2: lost at first", x.told(1, 10 + place), NONE);
        }
        due("2: nobody", x.told(0, 1), NONE);
        for (int number = 2; number < 30; number++) {
            due("2: number", x.record(number % 4, number % 10), number);
        }
        due("2: the 31st", x.record(0, 0), NONE);
        due("2: still 30", x.count(0), 30);
        due("2: the last is there", x.told(29, 0), 1);
    }

    private static void promise3Tone() {
        VoiceHouse x = new VoiceHouse();
        due("3: no recording", x.tone(0, 0, 5), false);
        x.record(0, 0);
        due("3: least", x.tone(0, 0, 0), true);
        due("3: most", x.tone(0, 5, 99), true);
        due("3: over", x.tone(0, 0, 100), false);
        due("3: under", x.tone(0, 0, -2), false);
        due("3: place 6", x.tone(0, 6, 5), false);
        due("3: place -1", x.tone(0, -1, 5), false);
        due("3: recording 1", x.tone(1, 0, 5), false);
        due("3: recording -1", x.tone(-1, 0, 5), false);
        for (int far : FAR_OFF) {
            due("3: far recording", x.tone(far, 0, 5), false);
            due("3: far place", x.tone(0, far, 5), false);
            due("3: far tone", x.tone(0, 0, far), false);
        }
        due("3: kept 0", x.told(0, 10), 0);
        due("3: kept 99", x.told(0, 15), 99);
        due("3: lost again", x.tone(0, 5, NONE), true);
        due("3: is lost", x.told(0, 15), NONE);
        due("3: counted", x.told(0, 2), 1);
    }

    private static void promise4Know() {
        VoiceHouse x = new VoiceHouse();
        due("4: no recording", x.know(0, 0), false);
        x.record(0, 3);
        due("4: speaker 10", x.know(0, 10), false);
        due("4: speaker -2", x.know(0, -2), false);
        for (int far : FAR_OFF) {
            due("4: far recording", x.know(far, 0), false);
            due("4: far speaker", x.know(0, far), false);
        }
        due("4: unchanged", x.told(0, 1), 3);
        due("4: 9", x.know(0, 9), true);
        due("4: is 9", x.told(0, 1), 9);
        due("4: nobody", x.know(0, NONE), true);
        due("4: is nobody", x.told(0, 1), NONE);

        VoiceHouse y = new VoiceHouse();
        heard(y, 0, 2, 10, 10, 10, 10, 10, 10);
        heard(y, 1, 2, 15, 15, 15, 15, 15, 15);
        due("4: shift ahead", y.shift(1, 5), 5);
        due("4: same ahead", y.count(1), 1);
        y.know(1, NONE);
        for (int place = 0; place < 6; place++) {
            due("4: shift gone at " + place, y.shift(1, place), 0);
        }
        due("4: pair gone", y.count(1) + y.count(2), 0);
        y.know(1, 4);
        due("4: other now", y.count(2), 1);
    }

    private static void promise5Set() {
        VoiceHouse x = new VoiceHouse();
        heard(x, 0, 0, 10, 10, 10, 10, 10, 10);
        heard(x, 0, 9, 10, 10, 10, 10, 10, 10);
        heard(x, 0, 9, 10, 10, 10, 10, 10, 10);
        due("5: all", x.count(1) * 10 + x.count(2), 12);
        due("5: 1024", x.set(1024), false);
        due("5: -1", x.set(-1), false);
        for (int far : new int[] {Integer.MIN_VALUE, -1000, 2000, Integer.MAX_VALUE}) {
            due("5: far", x.set(far), false);
        }
        due("5: unchanged", x.count(6), 1023);
        due("5: 512", x.set(512), true);
        due("5: only 9", x.count(1) * 10 + x.count(2), 10);
        due("5: 1", x.set(1), true);
        due("5: only 0", x.count(1) + x.count(2), 0);
        due("5: 513", x.set(513), true);
        due("5: both", x.count(1) * 10 + x.count(2), 12);
        due("5: 0", x.set(0), true);
        due("5: nobody", x.count(1) + x.count(2), 0);
        due("5: told", x.count(6), 0);
        due("5: 1023", x.set(1023), true);
        due("5: all again", x.count(1) * 10 + x.count(2), 12);
    }

    private static void promise6Limit() {
        VoiceHouse x = new VoiceHouse();
        due("6: 201", x.limit(201), false);
        due("6: -1", x.limit(-1), false);
        for (int far : FAR_OFF) {
            due("6: far", x.limit(far), false);
        }
        due("6: unchanged", x.count(5), 20);
        due("6: 0", x.limit(0), true);
        due("6: is 0", x.count(5), 0);
        due("6: 200", x.limit(200), true);
        due("6: is 200", x.count(5), 200);
    }

    private static void promise7Shift() {
        VoiceHouse x = new VoiceHouse();
        for (int far : new int[] {Integer.MIN_VALUE, -1, 6, Integer.MAX_VALUE}) {
            due("7: no channel", x.shift(far, 0), Integer.MIN_VALUE);
            due("7: no place", x.shift(0, far), Integer.MIN_VALUE);
        }
        due("7: channel 4", x.shift(4, 0), Integer.MIN_VALUE);
        heard(x, 0, 7, 50, 50, 50, 50, NONE, NONE);
        heard(x, 1, 7, 49, 53, 50, NONE, 50, NONE);
        heard(x, 1, 7, 48, 54, 50, NONE, 50, NONE);
        heard(x, 2, 7, 99, 0, NONE, NONE, NONE, NONE);
        heard(x, 1, 8, 0, 0, 0, 0, 0, 0);
        heard(x, 1, NONE, 9, 9, 9, 9, 9, 9);
        heard(x, 0, NONE, 1, 1, 1, 1, 1, 1);
        due("7: cut down below 0", x.shift(1, 0), -2);
        due("7: cut down above 0", x.shift(1, 1), 3);
        due("7: none between like ones", x.shift(1, 2), 0);
        due("7: lost in the channel", x.shift(1, 3), 0);
        due("7: lost in channel 0", x.shift(1, 4), 0);
        due("7: nobodies are not the same", x.shift(1, 5), 0);
        due("7: each channel its own", x.shift(2, 0), 49);
        due("7: each channel its own", x.shift(2, 1), -50);
        due("7: channel 3", x.shift(3, 0), 0);
        due("7: channel 0", x.shift(0, 0), 0);
        x.set(0);
        due("7: the set is not asked", x.shift(1, 0), -2);
        heard(x, 0, 7, 40, NONE, 42, NONE, NONE, NONE);
        due("7: every two of them", x.shift(1, 0), 3);
        due("7: one lost", x.shift(1, 1), 3);
        due("7: mean of 0, 0, 8, 8", x.shift(1, 2), 4);
        x.tone(1, 0, NONE);
        due("7: one lost later", x.shift(1, 0), 3);
        x.tone(2, 0, NONE);
        due("7: all lost later", x.shift(1, 0), 0);
    }

    private static void promise8Hidden() {
        VoiceHouse x = new VoiceHouse();
        for (int place = 0; place < 6; place++) {
            due("8: channel 0", x.hidden(0, place), false);
            due("8: channel 1", x.hidden(1, place), true);
            due("8: channel 3", x.hidden(3, place), true);
        }
        for (int far : new int[] {Integer.MIN_VALUE, -1, 6, Integer.MAX_VALUE}) {
            due("8: no channel", x.hidden(far, 0), false);
            due("8: no place", x.hidden(1, far), false);
        }
        due("8: channel 4", x.hidden(4, 0), false);
        heard(x, 0, 1, 5, 5, NONE, 5, 5, 5);
        heard(x, 2, 1, 5, NONE, 5, 6, 5, 5);
        heard(x, 0, NONE, 5, 5, 5, 5, 5, 5);
        heard(x, 3, NONE, 5, 5, 5, 5, 5, 5);
        due("8: a shift of 0 is none hidden", x.hidden(2, 0), false);
        due("8: lost there", x.hidden(2, 1), true);
        due("8: lost in channel 0", x.hidden(2, 2), true);
        due("8: nobodies", x.hidden(3, 0), true);
        x.know(1, 2);
        due("8: another speaker", x.hidden(2, 0), true);
    }

    private static void promise9Score() {
        VoiceHouse x = new VoiceHouse();
        due("9: none such", x.score(0, 1), NONE);
        heard(x, 0, 1, 10, 10, 10, 10, 10, NONE);
        heard(x, 0, NONE, 11, 10, 10, 10, 12, 50);
        heard(x, 0, NONE, 11, 11, 14, NONE, NONE, NONE);
        heard(x, 0, NONE, NONE, NONE, NONE, 1, 1, 1);
        due("9: cut, 18 by 5", x.score(0, 1), 3);
        due("9: both ways", x.score(1, 0), 3);
        due("9: three places", x.score(0, 2), 12);
        due("9: two places", x.score(0, 3), NONE);
        due("9: no place", x.score(2, 3), NONE);
        due("9: both are one", x.score(1, 1), NONE);
        for (int far : new int[] {Integer.MIN_VALUE, -1, 4, 30, Integer.MAX_VALUE}) {
            due("9: far a", x.score(far, 0), NONE);
            due("9: far b", x.score(0, far), NONE);
            due("9: far both", x.score(far, far), NONE);
        }
        x.set(0);
        due("9: the set is not asked", x.score(0, 1), 3);

        VoiceHouse y = new VoiceHouse();
        heard(y, 0, 1, 10, 20, 30, NONE, NONE, NONE);
        heard(y, 1, 1, 15, 25, 27, NONE, NONE, NONE);
        heard(y, 2, 1, 40, 20, 30, NONE, NONE, NONE);
        heard(y, 2, NONE, 41, 22, 33, 9, 9, 9);
        heard(y, 1, NONE, 15, 25, 27, 9, 9, 8);
        due("9: shifts are taken out", y.score(0, 1), 0);
        due("9: of both", y.score(1, 2), 0);
        due("9: of one channel", y.score(2, 3), 12);
        due("9: hidden ones are 0", y.score(3, 4), 7);
        y.tone(0, 0, 0);
        due("9: shifts as they are now", y.score(0, 1), 0);
        y.know(0, 5);
        due("9: no shift any more", y.score(0, 1), 2 * (15 + 5 + 3));
    }

    private static void promise10Band() {
        int[][] scoreAndBand = {{0, 0}, {9, 0}, {10, 1}, {19, 1}, {20, 2}, {89, 8}, {90, 9}, {99, 9}};
        for (int[] row : scoreAndBand) {
            VoiceHouse x = new VoiceHouse();
            heard(x, 0, 1, 0, 0, 0, 0, 0, 0);
            heard(x, 0, 1, row[0], 0, 0, 0, 0, 0);
            heard(x, 0, 2, row[0], 0, 0, 0, 0, 0);
            x.set(2);
            due("10: score " + row[0], x.band(row[1], 0), 1);
            due("10: no other", x.band(row[1], 1), 0);
        }
        VoiceHouse x = new VoiceHouse();
        heard(x, 0, 1, 0, 0, 0, 0, 0, 0);
        heard(x, 0, 2, 99, 99, 99, 99, 99, 99);
        heard(x, 0, NONE, 0, 0, 0, 0, 0, 0);
        due("10: the most there is", x.band(9, 1), 1);
        due("10: nobody is in no pair", x.band(0, 0) + x.band(0, 1), 0);
        due("10: what 2", x.band(9, 2), NONE);
        due("10: what -1", x.band(9, -1), NONE);
        due("10: band 10", x.band(10, 0), NONE);
        due("10: band -1", x.band(-1, 0), NONE);
        for (int far : FAR_OFF) {
            due("10: far band", x.band(far, 0), NONE);
            due("10: far what", x.band(0, far), NONE);
        }
        x.set(2);
        due("10: one is not of the set", x.band(9, 1), 0);
    }

    /** Shares of SAME by bands: 0: 1/2, 2: 2/3, 5: 1/2, 7: 0/1, 9: 0/2; so 0 and 2 are put together, and 7 and 9. */
    private static VoiceHouse houseOfBlocks() {
        VoiceHouse x = new VoiceHouse();
        int row = 0;
        twoOf(x, row++, 0, true);
        twoOf(x, row++, 9, false);
        twoOf(x, row++, 20, true);
        twoOf(x, row++, 24, true);
        twoOf(x, row++, 28, false);
        twoOf(x, row++, 50, true);
        twoOf(x, row++, 58, false);
        twoOf(x, row++, 70, false);
        twoOf(x, row++, 90, false);
        twoOf(x, row++, 190, false);
        return x;
    }

    private static void promise11Block() {
        VoiceHouse x = houseOfBlocks();
        int[] firsts = {0, NONE, 0, NONE, NONE, 5, NONE, 7, NONE, 7};
        int[] lasts = {2, NONE, 2, NONE, NONE, 5, NONE, 9, NONE, 9};
        for (int band = 0; band < 10; band++) {
            due("11: first of " + band, x.block(band, 0), firsts[band]);
            due("11: last of " + band, x.block(band, 1), lasts[band]);
            due("11: what 2", x.block(band, 2), NONE);
            due("11: what -1", x.block(band, -1), NONE);
        }
        due("11: band 10", x.block(10, 0), NONE);
        due("11: band -1", x.block(-1, 1), NONE);
        for (int far : FAR_OFF) {
            due("11: far band", x.block(far, 0), NONE);
            due("11: far what", x.block(0, far), NONE);
        }

        // 1/2, 1/3, 1/1: the last two make 2/4, which is not less than 1/2.
        VoiceHouse y = new VoiceHouse();
        twoOf(y, 0, 0, true);
        twoOf(y, 1, 0, false);
        twoOf(y, 2, 10, true);
        twoOf(y, 3, 10, false);
        twoOf(y, 4, 10, false);
        due("11: in order", y.count(3), 2);
        twoOf(y, 5, 20, true);
        due("11: back to the first", y.block(2, 0), 0);
        due("11: up to the last", y.block(0, 1), 2);
        due("11: one block", y.count(3), 1);

        // 2/3 and 3/5: less, though both are 0 when they are cut to whole.
        VoiceHouse z = new VoiceHouse();
        twoOf(z, 0, 0, true);
        twoOf(z, 1, 0, true);
        twoOf(z, 2, 0, false);
        twoOf(z, 3, 10, true);
        twoOf(z, 4, 10, true);
        twoOf(z, 5, 10, true);
        twoOf(z, 6, 10, false);
        twoOf(z, 7, 10, false);
        due("11: apart", z.count(3), 2);
        z.know(15, 1);
        due("11: 2/3 and 4/5", z.count(3), 1);
    }

    private static void promise12Odds() {
        VoiceHouse x = houseOfBlocks();
        int[][] odds = {{3, 4, 2, 6, 1}, {1, 4, 1, 6, 1}, {0, 4, 3, 6, 0}};
        int[][] scores = {{0, 9, 20, 29}, {50, 59}, {70, 79, 90, 500, Integer.MAX_VALUE}};
        for (int i = 0; i < odds.length; i++) {
            for (int score : scores[i]) {
                for (int what = 0; what < 5; what++) {
                    due("12: odds " + score + " " + what, x.odds(score, what), odds[i][what]);
                }
                due("12: what 5", x.odds(score, 5), NONE);
                due("12: what -1", x.odds(score, -1), NONE);
            }
        }
        for (int score : new int[] {10, 19, 30, 49, 60, 80, -1, -9, -15, Integer.MIN_VALUE}) {
            for (int what = 0; what < 5; what++) {
                due("12: no block at " + score, x.odds(score, what), NONE);
            }
        }
        for (int far : FAR_OFF) {
            due("12: far what", x.odds(0, far), NONE);
        }
        x.set(2);
        due("12: no other, no reach", x.odds(0, 4), 0);
    }

    private static void promise13Segment() {
        VoiceHouse x = new VoiceHouse();
        due("13: none such", x.segment(0), NONE);
        for (int i = 0; i < 10; i++) {
            x.record(0, NONE);
        }
        for (int far : new int[] {Integer.MIN_VALUE, -1, 10, Integer.MAX_VALUE}) {
            due("13: far", x.segment(far), NONE);
        }
        for (int i = 0; i < 8; i++) {
            due("13: one more", x.segment(9 - i), i + 1);
            due("13: it is there", x.segment(9 - i), NONE);
            due("13: counted", x.count(4), i + 1);
        }
        due("13: the ninth", x.segment(0), NONE);
        due("13: still 8", x.count(4), 8);
        x.clear();
        due("13: again", x.segment(9), 1);
    }

    private static void promise14Clear() {
        VoiceHouse x = new VoiceHouse();
        due("14: none", x.clear(), 0);
        x.record(0, 0);
        x.record(0, 0);
        x.segment(1);
        x.segment(0);
        due("14: two", x.clear(), 2);
        due("14: none left", x.count(4), 0);
        due("14: no voice", x.voice(0), NONE);
        due("14: no voices", x.voices(), 0);
        due("14: nothing spare", x.spare(), 0);
        due("14: recordings stay", x.count(0), 2);
        due("14: again", x.clear(), 0);
    }

    /** RECORDINGS of channel 0 whose SCORE is how much their first TONES differ, as segments in this order. */
    private static VoiceHouse segmentsOf(int limit, int... tones) {
        VoiceHouse x = new VoiceHouse();
        x.record(0, NONE);
        for (int tone : tones) {
            x.segment(heard(x, 0, NONE, tone, 0, 0, 0, 0, 0));
        }
        x.limit(limit);
        return x;
    }

    private static void dueVoices(String what, VoiceHouse x, int... voices) {
        int heads = 0;
        for (int k = 0; k < voices.length; k++) {
            due(what + ", segment " + k, x.voice(k), voices[k]);
            heads += voices[k] == k ? 1 : 0;
        }
        due(what + ", behind the last", x.voice(voices.length), NONE);
        due(what + ", voices", x.voices(), heads);
    }

    private static void promise15Voice() {
        dueVoices("15: none", segmentsOf(20));
        dueVoices("15: one", segmentsOf(20, 5), 0);
        dueVoices("15: at the limit", segmentsOf(20, 5, 25), 0, 0);
        dueVoices("15: above it", segmentsOf(20, 5, 26), 0, 1);
        dueVoices("15: limit 0", segmentsOf(0, 5, 6, 5), 0, 1, 0);
        dueVoices("15: like ones, the first", segmentsOf(10, 0, 10, 20), 0, 0, 2);
        dueVoices("15: like ones, the first in the list", segmentsOf(10, 20, 10, 0), 0, 0, 2);
        dueVoices("15: like ones, by the second too", segmentsOf(10, 10, 0, 20), 0, 0, 2);
        dueVoices("15: the least first", segmentsOf(10, 0, 10, 19), 0, 1, 1);
        dueVoices("15: mean at the limit", segmentsOf(20, 0, 10, 25), 0, 0, 0);
        dueVoices("15: mean half above", segmentsOf(20, 0, 11, 26), 0, 0, 2);
        dueVoices("15: four and four", segmentsOf(10, 0, 50, 1, 51, 2, 52, 3, 53), 0, 1, 0, 1, 0, 1, 0, 1);
        dueVoices("15: means, not sums", segmentsOf(8, 7, 15, 9, 23), 0, 0, 0, 3);
        // 10 and 11 are joined first; their mean to 17 is 6.5: more than 6, though cut it would be like it,
        // and less than 7, though rounded up it would be like that.
        dueVoices("15: compared exactly, not cut", segmentsOf(7, 10, 11, 17, 23), 0, 0, 2, 2);
        dueVoices("15: compared exactly, not rounded", segmentsOf(7, 24, 17, 10, 11), 0, 1, 1, 1);

        VoiceHouse x = new VoiceHouse();
        x.segment(heard(x, 0, NONE, 5, 5, 5, NONE, NONE, NONE));
        x.segment(heard(x, 0, NONE, 5, 5, 5, 5, 5, 5));
        x.segment(heard(x, 0, NONE, NONE, NONE, NONE, 5, 5, 5));
        dueVoices("15: two without a score", x, 0, 0, 2);
        x.tone(0, 0, 6);
        dueVoices("15: as the tones are now", x, 0, 1, 1);
        for (int far : new int[] {Integer.MIN_VALUE, -1, 3, 8, Integer.MAX_VALUE}) {
            due("15: far", x.voice(far), NONE);
        }
    }

    private static void promise16Voices() {
        VoiceHouse x = segmentsOf(20, 0, 30, 60, 90);
        due("16: each by itself", x.voices(), 4);
        x.limit(30);
        due("16: two and two", x.voices(), 2);
        x.limit(60);
        due("16: all", x.voices(), 1);
        x.limit(20);
        due("16: as the limit is now", x.voices(), 4);
        x.set(0);
        due("16: the set is not asked", x.voices(), 4);
    }

    private static void promise17Spare() {
        due("17: none", segmentsOf(20).spare(), 0);
        due("17: one", segmentsOf(20, 5).spare(), 20);
        due("17: joined", segmentsOf(20, 5, 20).spare(), 35);
        due("17: apart", segmentsOf(20, 5, 30).spare(), 40);
        due("17: limit 0", segmentsOf(0, 5, 5, 9).spare(), 0);
        // JOINED has them as 0, 1, 2 together: 10 and 9 and 19 and 20; two VOICES are 49.
        due("17: not as they are joined", segmentsOf(20, 0, 10, 19).spare(), 49);
        due("17: two and two", segmentsOf(30, 0, 9, 18, 27).spare(), 78);
        due("17: eight like ones", segmentsOf(20, 7, 7, 7, 7, 7, 7, 7, 7).spare(), 20);
        due("17: eight far ones", segmentsOf(1, 0, 9, 20, 31, 42, 53, 64, 75).spare(), 8);
        VoiceHouse x = new VoiceHouse();
        x.segment(heard(x, 0, NONE, 5, 5, 5, NONE, NONE, NONE));
        x.segment(heard(x, 0, NONE, 5, 5, 5, 5, 5, 5));
        x.segment(heard(x, 0, NONE, NONE, NONE, NONE, 5, 5, 5));
        due("17: two without a score", x.spare(), 40);
        x.limit(200);
        due("17: still two", x.spare(), 400);
    }

    private static VoiceHouse houseWithLineUp() {
        VoiceHouse x = new VoiceHouse();
        heard(x, 0, NONE, 50, 0, 0, 0, 0, 0);
        heard(x, 0, 1, 60, 0, 0, 0, 0, 0);
        heard(x, 0, 2, 45, 0, 0, 0, 0, 0);
        heard(x, 0, 3, 55, 0, 0, 0, 0, 0);
        heard(x, 0, 1, 50, NONE, NONE, NONE, NONE, 0);
        heard(x, 0, NONE, 50, 0, 0, 0, 0, 0);
        heard(x, 0, 1, 40, 0, 0, 0, 0, 0);
        heard(x, 0, 2, 51, 0, 0, 0, 0, 0);
        heard(x, 0, 9, 99, 0, 0, 0, 0, 0);
        return x;
    }

    private static void dueLineUp(String what, VoiceHouse x, int recording, int... line) {
        for (int i = 0; i < line.length; i++) {
            due(what + ", place " + i, x.lined(recording, i), line[i]);
        }
        for (int i : new int[] {Integer.MIN_VALUE, -1, line.length, 30, Integer.MAX_VALUE}) {
            due(what + ", place " + i, x.lined(recording, i), NONE);
        }
    }

    private static void promise18Lined() {
        VoiceHouse x = houseWithLineUp();
        dueLineUp("18: by scores and numbers", x, 0, 7, 2, 3, 1, 6, 8);
        dueLineUp("18: of a known one", x, 2, 6, 7, 3, 1, 8);
        dueLineUp("18: without a score", x, 4);
        for (int far : new int[] {Integer.MIN_VALUE, -1, 9, 30, Integer.MAX_VALUE}) {
            dueLineUp("18: none such", x, far);
        }
        x.set(1 << 1 | 1 << 9);
        dueLineUp("18: of the set", x, 0, 1, 6, 8);
        dueLineUp("18: it need not be of the set itself", x, 2, 6, 1, 8);
        x.know(0, 9);
        dueLineUp("18: known now", x, 1, 0, 6, 8);
    }

    private static void promise19Rank() {
        VoiceHouse x = houseWithLineUp();
        due("19: the first", x.rank(0, 2), 0);
        due("19: 2 is ahead with two", x.rank(0, 3), 1);
        due("19: behind", x.rank(0, 1), 2);
        due("19: the last", x.rank(0, 9), 3);
        due("19: not in it", x.rank(0, 4), NONE);
        due("19: its own speaker too", x.rank(2, 2), 1);
        for (int far : new int[] {Integer.MIN_VALUE, -1, 10, 30, Integer.MAX_VALUE}) {
            due("19: far recording", x.rank(far, 1), NONE);
            due("19: far speaker", x.rank(0, far), NONE);
        }
        due("19: recording 9", x.rank(9, 1), NONE);
        due("19: no line-up", x.rank(4, 1), NONE);
        x.set(1 << 1 | 1 << 9);
        due("19: not of the set", x.rank(0, 2), NONE);
        due("19: in the set", x.rank(0, 9), 1);
        x.set(1023);
        x.know(7, NONE);
        due("19: like scores, by numbers", x.rank(0, 3), 1);
        x.know(3, 2);
        x.know(2, 3);
        due("19: like scores the other way", x.rank(0, 3), 0);
    }

    private static void promise20Test() {
        VoiceHouse x = new VoiceHouse();
        heard(x, 0, 1, 0, 0, 0, 0, 0, 0);
        heard(x, 0, 1, 20, 0, 0, 0, 0, 0);
        heard(x, 0, 2, 41, 0, 0, 0, 0, 0);
        heard(x, 0, NONE, 0, 0, 0, 0, 0, 0);
        heard(x, 0, 3, 0, 0, NONE, NONE, NONE, NONE);
        due("20: at the limit", x.test(0, 1), 1);
        due("20: above it", x.test(1, 2), 0);
        due("20: no score", x.test(0, 4), 2);
        due("20: nobody first", x.test(3, 0), NONE);
        due("20: nobody second", x.test(0, 3), NONE);
        due("20: both are one", x.test(0, 0), NONE);
        for (int far : new int[] {Integer.MIN_VALUE, -1, 5, 30, Integer.MAX_VALUE}) {
            due("20: far a", x.test(far, 0), NONE);
            due("20: far b", x.test(0, far), NONE);
        }
        x.set(0);
        due("20: the set is not asked", x.test(1, 0), 1);
        x.limit(19);
        due("20: the limit as it is then", x.test(0, 1), 0);
        // Five were taken, the refused ones don't count; one without a SCORE does.
        for (int i = 5; i < 60; i++) {
            due("20: one more", x.test(4, 0), 2);
        }
        due("20: 60 were", x.test(0, 1), NONE);
        due("20: 60 were", x.test(0, 4), NONE);
        int all = 0;
        for (int what = 0; what < 5; what++) {
            all += x.right(what);
        }
        due("20: all of them", all, 60);
    }

    private static void promise21Right() {
        VoiceHouse x = new VoiceHouse();
        heard(x, 0, 1, 0, 0, 0, 0, 0, 0);
        heard(x, 0, 1, 5, 0, 0, 0, 0, 0);
        heard(x, 0, 1, 90, 0, 0, 0, 0, 0);
        heard(x, 0, 2, 3, 0, 0, 0, 0, 0);
        heard(x, 0, 2, 0, 0, NONE, NONE, NONE, NONE);
        int[][] tests = {{0, 1}, {0, 3}, {1, 3}, {2, 3}, {3, 2}, {2, 3}, {0, 2}, {1, 2}, {2, 1}, {2, 0},
            {0, 4}, {1, 4}, {2, 4}, {3, 4}, {4, 3}};
        for (int[] row : tests) {
            x.test(row[0], row[1]);
        }
        int[] due = {1, 2, 3, 4, 5};
        for (int what = 0; what < 5; what++) {
            due("21: right " + what, x.right(what), due[what]);
        }
        x.know(3, 1);
        x.limit(200);
        x.test(0, 0);
        for (int what = 0; what < 5; what++) {
            due("21: as it was then, " + what, x.right(what), due[what]);
        }
        x.test(0, 3);
        due("21: by the speakers now", x.right(0), 2);
        for (int far : new int[] {Integer.MIN_VALUE, -1, 5, Integer.MAX_VALUE}) {
            due("21: others", x.right(far), NONE);
        }
    }

    private static void promise22Told() {
        VoiceHouse x = new VoiceHouse();
        due("22: none such", x.told(0, 0), NONE);
        heard(x, 3, 4, 0, 99, NONE, 7, NONE, 1);
        heard(x, 0, NONE, NONE, NONE, NONE, NONE, NONE, NONE);
        int[] tones = {0, 99, NONE, 7, NONE, 1};
        due("22: channel", x.told(0, 0), 3);
        due("22: speaker", x.told(0, 1), 4);
        due("22: tones", x.told(0, 2), 4);
        for (int place = 0; place < 6; place++) {
            due("22: tone " + place, x.told(0, 10 + place), tones[place]);
        }
        for (int what : new int[] {Integer.MIN_VALUE, -1, 3, 4, 9, 16, 17, Integer.MAX_VALUE}) {
            due("22: what " + what, x.told(0, what), NONE);
        }
        due("22: channel 0", x.told(1, 0), 0);
        due("22: nobody", x.told(1, 1), NONE);
        due("22: no tones", x.told(1, 2), 0);
        for (int far : new int[] {Integer.MIN_VALUE, -1, 2, 30, Integer.MAX_VALUE}) {
            due("22: far", x.told(far, 0), NONE);
            due("22: far tone", x.told(far, 10), NONE);
        }
    }

    private static void promise23Count() {
        VoiceHouse x = houseOfBlocks();
        x.segment(3);
        x.segment(1);
        x.limit(77);
        int[] counts = {20, 4, 6, 3, 2, 77, 1023};
        for (int what = 0; what < counts.length; what++) {
            due("23: count " + what, x.count(what), counts[what]);
        }
        x.set(2);
        int[] countsOfSet = {20, 4, 0, 1, 2, 77, 2};
        for (int what = 0; what < countsOfSet.length; what++) {
            due("23: count of the set " + what, x.count(what), countsOfSet[what]);
        }
        for (int far : new int[] {Integer.MIN_VALUE, -1, 7, 10, Integer.MAX_VALUE}) {
            due("23: others", x.count(far), NONE);
        }
    }

    /** Two RECORDINGS that have a SCORE (an even one, or that and one less) with each other alone. */
    private static void twoOf(VoiceHouse x, int row, int score, boolean same) {
        int[] places = ROWS[row];
        int a = x.record(0, 1);
        int b = x.record(0, same ? 1 : 2);
        int left = score / 2;
        for (int place : places) {
            int step = Math.min(left, 99);
            x.tone(a, place, 0);
            x.tone(b, place, step);
            left -= step;
        }
        due("two of a row", x.score(a, b), score / 2 * 2);
    }

    private static int heard(VoiceHouse x, int channel, int speaker, int... tones) {
        int number = x.record(channel, speaker);
        for (int place = 0; place < tones.length; place++) {
            due("heard", x.tone(number, place, tones[place]), true);
        }
        return number;
    }

    private static void due(String what, boolean got, boolean want) {
        due(what, got ? 1 : 0, want ? 1 : 0);
    }

    private static void due(String what, int got, int want) {
        if (got == want) {
            passed++;
        } else {
            wrong++;
            System.out.println(what + " answered " + got + ", due is " + want);
        }
    }
}
