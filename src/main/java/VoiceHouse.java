import java.util.Arrays;

/** A house that weighs voices; the document's promises tell what each call answers. */
public final class VoiceHouse {
    public static final int NONE = -1;

    private static final int NO_SHIFT = -2147483648;
    private static final int MOST_RECORDINGS = 30;
    private static final int PLACES = 6;
    private static final int FEWEST_PLACES = 3;
    private static final int TOP_TONE = 99;
    private static final int CHANNELS = 4;
    private static final int SPEAKERS = 10;
    private static final int ALL_SPEAKERS = 1023;
    private static final int TOP_LIMIT = 200;
    private static final int FIRST_LIMIT = 20;
    private static final int BANDS = 10;
    private static final int BAND_WIDTH = 10;
    private static final int MOST_SEGMENTS = 8;
    private static final int MOST_TESTS = 60;
    private static final int OUTCOMES = 5;
    private static final int FIRST_PLACE_TOLD = 10;

    private final Archive archive;
    private final Shifts shifts;
    private final Scores scores;
    private final PairBook pairBook;
    private final Segments segments;
    private final LineUp lineUp;
    private final BlindTests blindTests;
    private int speakersInSet;
    private int limitNow;
    private boolean pairsAreOld;

    public VoiceHouse() {
        archive = new Archive();
        shifts = new Shifts(archive);
        scores = new Scores(archive, shifts);
        pairBook = new PairBook(archive, scores);
        segments = new Segments(scores);
        lineUp = new LineUp(archive, scores);
        blindTests = new BlindTests();
        speakersInSet = ALL_SPEAKERS;
        limitNow = FIRST_LIMIT;
        pairsAreOld = false;
    }

    /** A RECORDING without TONES is in no pair yet, so that neither SHIFTS nor PAIRS change by it. */
    public int record(int channel, int speaker) {
        if (!isChannel(channel) || !isSpeakerOrNobody(speaker) || archive.isFull()) {
            return NONE;
        }
        return archive.add(channel, speaker);
    }

    public boolean tone(int recording, int place, int tone) {
        if (!archive.has(recording) || !isPlace(place) || tone < NONE || tone > TOP_TONE) {
            return false;
        }
        archive.putTone(recording, place, tone);
        shifts.measure(place);
        pairsAreOld = true;
        return true;
    }

    public boolean know(int recording, int speaker) {
        if (!archive.has(recording) || !isSpeakerOrNobody(speaker)) {
            return false;
        }
        archive.putSpeaker(recording, speaker);
        shifts.measureAll();
        pairsAreOld = true;
        return true;
    }

    public boolean set(int speakers) {
        if (speakers < 0 || speakers > ALL_SPEAKERS) {
            return false;
        }
        speakersInSet = speakers;
        pairsAreOld = true;
        return true;
    }

    public boolean limit(int limit) {
        if (limit < 0 || limit > TOP_LIMIT) {
            return false;
        }
        limitNow = limit;
        return true;
    }

    public int shift(int channel, int place) {
        if (!isChannel(channel) || !isPlace(place)) {
            return NO_SHIFT;
        }
        return shifts.at(channel, place);
    }

    public boolean hidden(int channel, int place) {
        if (!isChannel(channel) || !isPlace(place)) {
            return false;
        }
        return shifts.isUnheard(channel, place);
    }

    public int score(int a, int b) {
        if (!areTwo(a, b)) {
            return NONE;
        }
        return scores.between(a, b);
    }

    public int band(int band, int what) {
        if (!isBand(band)) {
            return NONE;
        }
        switch (what) {
            case 0:
                return freshPairs().sameIn(band);
            case 1:
                return freshPairs().otherIn(band);
            default:
                return NONE;
        }
    }

    public int block(int band, int what) {
        if (!isBand(band)) {
            return NONE;
        }
        PairBook pairs = freshPairs();
        int found = pairs.findBlock(band);
        if (found == NONE) {
            return NONE;
        }
        switch (what) {
            case 0:
                return pairs.firstBandOf(found);
            case 1:
                return pairs.lastBandOf(found);
            default:
                return NONE;
        }
    }

    public int odds(int score, int what) {
        if (score < 0) {
            return NONE;
        }
        PairBook pairs = freshPairs();
        int found = pairs.findBlock(bandOf(score));
        if (found == NONE) {
            return NONE;
        }
        switch (what) {
            case 0:
                return pairs.sameOf(found);
            case 1:
                return pairs.allSame();
            case 2:
                return pairs.otherOf(found);
            case 3:
                return pairs.allOther();
            case 4:
                return pairs.reaches(found) ? 1 : 0;
            default:
                return NONE;
        }
    }

    public int segment(int recording) {
        if (!archive.has(recording) || segments.isFull() || segments.isListed(recording)) {
            return NONE;
        }
        segments.add(recording);
        return segments.size();
    }

    public int clear() {
        return segments.empty();
    }

    public int voice(int k) {
        if (k < 0 || k >= segments.size()) {
            return NONE;
        }
        segments.join(limitNow);
        return segments.voiceAt(k);
    }

    public int voices() {
        segments.join(limitNow);
        return segments.countVoices();
    }

    public int spare() {
        return segments.leastCost(limitNow);
    }

    public int lined(int recording, int i) {
        if (!archive.has(recording)) {
            return NONE;
        }
        lineUp.callFor(recording, speakersInSet);
        return lineUp.at(i);
    }

    public int rank(int recording, int speaker) {
        if (!archive.has(recording) || !isSpeaker(speaker)) {
            return NONE;
        }
        lineUp.callFor(recording, speakersInSet);
        return lineUp.speakersAhead(speaker);
    }

    public int test(int a, int b) {
        if (!areTwo(a, b) || !archive.isKnown(a) || !archive.isKnown(b) || blindTests.areOver()) {
            return NONE;
        }
        boolean same = archive.speakerOf(a) == archive.speakerOf(b);
        return blindTests.put(scores.between(a, b), limitNow, same);
    }

    public int right(int what) {
        if (what < 0 || what >= OUTCOMES) {
            return NONE;
        }
        return blindTests.outcome(what);
    }

    public int told(int recording, int what) {
        if (!archive.has(recording)) {
            return NONE;
        }
        switch (what) {
            case 0:
                return archive.channelOf(recording);
            case 1:
                return archive.speakerOf(recording);
            case 2:
                return archive.countTones(recording);
            default:
                return toneTold(recording, what);
        }
    }

    public int count(int what) {
        switch (what) {
            case 0:
                return archive.size();
            case 1:
                return freshPairs().allSame();
            case 2:
                return freshPairs().allOther();
            case 3:
                return freshPairs().countBlocks();
            case 4:
                return segments.size();
            case 5:
                return limitNow;
            case 6:
                return speakersInSet;
            default:
                return NONE;
        }
    }

    private int toneTold(int recording, int what) {
        if (what < FIRST_PLACE_TOLD || what >= FIRST_PLACE_TOLD + PLACES) {
            return NONE;
        }
        return archive.toneAt(recording, what - FIRST_PLACE_TOLD);
    }

    /** The PAIRS are counted when they are asked for: most TONES come one after the other. */
    private PairBook freshPairs() {
        if (pairsAreOld) {
            pairBook.fillFor(speakersInSet);
            pairsAreOld = false;
        }
        return pairBook;
    }

    private boolean areTwo(int a, int b) {
        return a != b && archive.has(a) && archive.has(b);
    }

    private static boolean isChannel(int channel) {
        return channel >= 0 && channel < CHANNELS;
    }

    private static boolean isPlace(int place) {
        return place >= 0 && place < PLACES;
    }

    private static boolean isSpeaker(int speaker) {
        return speaker >= 0 && speaker < SPEAKERS;
    }

    private static boolean isSpeakerOrNobody(int speaker) {
        return speaker == NONE || isSpeaker(speaker);
    }

    private static boolean isBand(int band) {
        return band >= 0 && band < BANDS;
    }

    private static int bandOf(int score) {
        return Math.min(score / BAND_WIDTH, BANDS - 1);
    }

    /** The RECORDINGS, with the TONES of all of them in one row. */
    private static final class Archive {
        private final int[] channels;
        private final int[] speakers;
        private final int[] tones;
        private int size;

        Archive() {
            channels = new int[MOST_RECORDINGS];
            speakers = new int[MOST_RECORDINGS];
            tones = new int[MOST_RECORDINGS * PLACES];
            Arrays.fill(tones, NONE);
            size = 0;
        }

        int size() {
            return size;
        }

        boolean isFull() {
            return size >= MOST_RECORDINGS;
        }

        boolean has(int recording) {
            return recording >= 0 && recording < size;
        }

        int add(int channel, int speaker) {
            int number = size;
            channels[number] = channel;
            speakers[number] = speaker;
            size++;
            return number;
        }

        void putTone(int recording, int place, int tone) {
            tones[recording * PLACES + place] = tone;
        }

        void putSpeaker(int recording, int speaker) {
            speakers[recording] = speaker;
        }

        int channelOf(int recording) {
            return channels[recording];
        }

        int speakerOf(int recording) {
            return speakers[recording];
        }

        boolean isKnown(int recording) {
            return speakers[recording] != NONE;
        }

        boolean isOfSet(int recording, int speakersInSet) {
            return isKnown(recording) && (speakersInSet >> speakers[recording] & 1) == 1;
        }

        int toneAt(int recording, int place) {
            return tones[recording * PLACES + place];
        }

        int countTones(int recording) {
            int heard = 0;
            for (int place = 0; place < PLACES; place++) {
                if (toneAt(recording, place) != NONE) {
                    heard++;
                }
            }
            return heard;
        }
    }

    /** The SHIFTS of all CHANNELS, measured when TONES or SPEAKERS change: every SCORE reads twelve of them. */
    private static final class Shifts {
        private final Archive archive;
        private final int[] sums;
        private final int[] pairs;
        private final int[] means;

        Shifts(Archive archive) {
            this.archive = archive;
            sums = new int[CHANNELS * PLACES];
            pairs = new int[CHANNELS * PLACES];
            means = new int[CHANNELS * PLACES];
        }

        void measureAll() {
            for (int place = 0; place < PLACES; place++) {
                measure(place);
            }
        }

        /** CHANNEL 0 is left out, and so its SHIFT stays 0. */
        void measure(int place) {
            for (int channel = 1; channel < CHANNELS; channel++) {
                sums[channel * PLACES + place] = 0;
                pairs[channel * PLACES + place] = 0;
            }
            for (int a = 0; a < archive.size(); a++) {
                if (archive.channelOf(a) != 0 && archive.isKnown(a) && archive.toneAt(a, place) != NONE) {
                    addPairsOf(a, place);
                }
            }
            for (int channel = 1; channel < CHANNELS; channel++) {
                int spot = channel * PLACES + place;
                means[spot] = pairs[spot] == 0 ? 0 : Math.floorDiv(sums[spot], pairs[spot]);
            }
        }

        private void addPairsOf(int a, int place) {
            int spot = archive.channelOf(a) * PLACES + place;
            for (int b = 0; b < archive.size(); b++) {
                boolean heardTwice = archive.channelOf(b) == 0 && archive.speakerOf(b) == archive.speakerOf(a);
                if (heardTwice && archive.toneAt(b, place) != NONE) {
                    sums[spot] += archive.toneAt(a, place) - archive.toneAt(b, place);
                    pairs[spot]++;
                }
            }
        }

        int at(int channel, int place) {
            return means[channel * PLACES + place];
        }

        boolean isUnheard(int channel, int place) {
            return channel != 0 && pairs[channel * PLACES + place] == 0;
        }
    }

    private static final class Scores {
        private final Archive archive;
        private final Shifts shifts;

        Scores(Archive archive, Shifts shifts) {
            this.archive = archive;
            this.shifts = shifts;
        }

        int between(int a, int b) {
            int sum = 0;
            int places = 0;
            for (int place = 0; place < PLACES; place++) {
                int toneOfA = archive.toneAt(a, place);
                int toneOfB = archive.toneAt(b, place);
                if (toneOfA != NONE && toneOfB != NONE) {
                    int unshiftedA = toneOfA - shifts.at(archive.channelOf(a), place);
                    int unshiftedB = toneOfB - shifts.at(archive.channelOf(b), place);
                    sum += Math.abs(unshiftedA - unshiftedB);
                    places++;
                }
            }
            return places < FEWEST_PLACES ? NONE : sum * PLACES / places;
        }
    }

    /** The PAIRS by BANDS, and the BLOCKS over them. */
    private static final class PairBook {
        private final Archive archive;
        private final Scores scores;
        private final int[] bandSame;
        private final int[] bandOther;
        private final int[] blockFirst;
        private final int[] blockLast;
        private final int[] blockSame;
        private final int[] blockOther;
        private int blocks;
        private int sumSame;
        private int sumOther;

        PairBook(Archive archive, Scores scores) {
            this.archive = archive;
            this.scores = scores;
            bandSame = new int[BANDS];
            bandOther = new int[BANDS];
            blockFirst = new int[BANDS];
            blockLast = new int[BANDS];
            blockSame = new int[BANDS];
            blockOther = new int[BANDS];
            blocks = 0;
            sumSame = 0;
            sumOther = 0;
        }

        void fillFor(int speakersInSet) {
            countPairs(speakersInSet);
            makeBlocks();
            putBlocksInOrder();
        }

        private void countPairs(int speakersInSet) {
            Arrays.fill(bandSame, 0);
            Arrays.fill(bandOther, 0);
            sumSame = 0;
            sumOther = 0;
            for (int b = 1; b < archive.size(); b++) {
                for (int a = 0; a < b; a++) {
                    if (archive.isOfSet(a, speakersInSet) && archive.isOfSet(b, speakersInSet)) {
                        countPair(a, b);
                    }
                }
            }
        }

        private void countPair(int a, int b) {
            int score = scores.between(a, b);
            if (score == NONE) {
                return;
            }
            if (archive.speakerOf(a) == archive.speakerOf(b)) {
                bandSame[bandOf(score)]++;
                sumSame++;
            } else {
                bandOther[bandOf(score)]++;
                sumOther++;
            }
        }

        private void makeBlocks() {
            blocks = 0;
            for (int band = 0; band < BANDS; band++) {
                if (!isEmptyBand(band)) {
                    blockFirst[blocks] = band;
                    blockLast[blocks] = band;
                    blockSame[blocks] = bandSame[band];
                    blockOther[blocks] = bandOther[band];
                    blocks++;
                }
            }
        }

        private void putBlocksInOrder() {
            for (int turn = 0; turn < BANDS; turn++) {
                int ahead = findOutOfOrder();
                if (ahead == NONE) {
                    return;
                }
                joinWithNext(ahead);
            }
        }

        private int findOutOfOrder() {
            for (int ahead = 0; ahead + 1 < blocks; ahead++) {
                if (isOutOfOrder(ahead, ahead + 1)) {
                    return ahead;
                }
            }
            return NONE;
        }

        /** Multiplied crosswise: shares cut to whole numbers would seem alike that aren't. */
        private boolean isOutOfOrder(int ahead, int later) {
            int allAhead = blockSame[ahead] + blockOther[ahead];
            int allLater = blockSame[later] + blockOther[later];
            return blockSame[later] * allAhead >= blockSame[ahead] * allLater;
        }

        private void joinWithNext(int ahead) {
            blockLast[ahead] = blockLast[ahead + 1];
            blockSame[ahead] += blockSame[ahead + 1];
            blockOther[ahead] += blockOther[ahead + 1];
            for (int later = ahead + 1; later + 1 < blocks; later++) {
                blockFirst[later] = blockFirst[later + 1];
                blockLast[later] = blockLast[later + 1];
                blockSame[later] = blockSame[later + 1];
                blockOther[later] = blockOther[later + 1];
            }
            blocks--;
        }

        /** An empty BAND may lie between a BLOCK's ends, and is of no BLOCK all the same. */
        int findBlock(int band) {
            if (isEmptyBand(band)) {
                return NONE;
            }
            for (int found = 0; found < blocks; found++) {
                if (band <= blockLast[found]) {
                    return found;
                }
            }
            return NONE;
        }

        private boolean isEmptyBand(int band) {
            return bandSame[band] + bandOther[band] == 0;
        }

        int sameIn(int band) {
            return bandSame[band];
        }

        int otherIn(int band) {
            return bandOther[band];
        }

        int firstBandOf(int found) {
            return blockFirst[found];
        }

        int lastBandOf(int found) {
            return blockLast[found];
        }

        int sameOf(int found) {
            return blockSame[found];
        }

        int otherOf(int found) {
            return blockOther[found];
        }

        boolean reaches(int found) {
            return blockSame[found] != 0 && blockOther[found] != 0;
        }

        int allSame() {
            return sumSame;
        }

        int allOther() {
            return sumOther;
        }

        int countBlocks() {
            return blocks;
        }
    }

    /** The SEGMENTS, and the two ways to make VOICES of them. A SEGMENT is named by its place in the list. */
    private static final class Segments {
        private final Scores scores;
        private final int[] recordings;
        private final int[] table;
        private final int[] voiceOf;
        private final int[] within;
        private final int[] least;
        private int size;
        private int crossSum;
        private int crossPairs;

        Segments(Scores scores) {
            this.scores = scores;
            recordings = new int[MOST_SEGMENTS];
            table = new int[MOST_SEGMENTS * MOST_SEGMENTS];
            voiceOf = new int[MOST_SEGMENTS];
            within = new int[1 << MOST_SEGMENTS];
            least = new int[1 << MOST_SEGMENTS];
            size = 0;
            crossSum = 0;
            crossPairs = 0;
        }

        int size() {
            return size;
        }

        boolean isFull() {
            return size >= MOST_SEGMENTS;
        }

        boolean isListed(int recording) {
            for (int k = 0; k < size; k++) {
                if (recordings[k] == recording) {
                    return true;
                }
            }
            return false;
        }

        void add(int recording) {
            recordings[size] = recording;
            size++;
        }

        int empty() {
            int were = size;
            size = 0;
            return were;
        }

        private void readScores() {
            for (int k = 0; k < size; k++) {
                for (int j = 0; j < k; j++) {
                    int score = scores.between(recordings[j], recordings[k]);
                    table[j * MOST_SEGMENTS + k] = score;
                    table[k * MOST_SEGMENTS + j] = score;
                }
            }
        }

        void join(int limit) {
            readScores();
            for (int k = 0; k < size; k++) {
                voiceOf[k] = k;
            }
            for (int turn = 1; turn < size; turn++) {
                if (!joinNearestTwo(limit)) {
                    return;
                }
            }
        }

        /** Goes through the twos by their first SEGMENTS, so that of like ones the first stays. */
        private boolean joinNearestTwo(int limit) {
            int bestOne = NONE;
            int bestOther = NONE;
            int bestSum = 0;
            int bestPairs = 0;
            for (int one = 0; one < size; one++) {
                for (int other = one + 1; other < size; other++) {
                    if (!isVoice(one) || !isVoice(other) || !measureCross(one, other)) {
                        continue;
                    }
                    boolean nearer = bestOne == NONE
                            ? crossSum <= limit * crossPairs
                            : crossSum * bestPairs < bestSum * crossPairs;
                    if (nearer) {
                        bestOne = one;
                        bestOther = other;
                        bestSum = crossSum;
                        bestPairs = crossPairs;
                    }
                }
            }
            if (bestOne == NONE) {
                return false;
            }
            putTogether(bestOne, bestOther);
            return true;
        }

        private boolean isVoice(int k) {
            return voiceOf[k] == k;
        }

        /** Leaves the sum and the number of SCORES between two VOICES; false if one SCORE is missing. */
        private boolean measureCross(int one, int other) {
            crossSum = 0;
            crossPairs = 0;
            for (int j = 0; j < size; j++) {
                for (int k = 0; k < size; k++) {
                    if (voiceOf[j] == one && voiceOf[k] == other) {
                        int score = table[j * MOST_SEGMENTS + k];
                        if (score == NONE) {
                            return false;
                        }
                        crossSum += score;
                        crossPairs++;
                    }
                }
            }
            return true;
        }

        private void putTogether(int one, int other) {
            for (int k = 0; k < size; k++) {
                if (voiceOf[k] == other) {
                    voiceOf[k] = one;
                }
            }
        }

        int voiceAt(int k) {
            return voiceOf[k];
        }

        int countVoices() {
            int found = 0;
            for (int k = 0; k < size; k++) {
                if (isVoice(k)) {
                    found++;
                }
            }
            return found;
        }

        /** SPARE, by the least cost of each part of the list (as bits), the smaller parts first. */
        int leastCost(int limit) {
            readScores();
            within[0] = 0;
            least[0] = 0;
            int all = (1 << size) - 1;
            for (int part = 1; part <= all; part++) {
                within[part] = sumWithin(part);
                least[part] = leastOf(part, limit);
            }
            return least[all];
        }

        /** The SCORES within a VOICE of these SEGMENTS; NONE if they can't be one VOICE. */
        private int sumWithin(int part) {
            int rest = part & (part - 1);
            int first = Integer.numberOfTrailingZeros(part);
            int sum = within[rest];
            if (sum == NONE) {
                return NONE;
            }
            for (int k = first + 1; k < size; k++) {
                if ((rest >> k & 1) == 1) {
                    int score = table[first * MOST_SEGMENTS + k];
                    if (score == NONE) {
                        return NONE;
                    }
                    sum += score;
                }
            }
            return sum;
        }

        /** The first SEGMENT is in some VOICE: each VOICE that it can be in is tried with the best of the rest. */
        private int leastOf(int part, int limit) {
            int rest = part & (part - 1);
            int first = part ^ rest;
            int best = limit + least[rest];
            for (int company = rest; company > 0; company = (company - 1) & rest) {
                int sum = within[company | first];
                if (sum != NONE) {
                    best = Math.min(best, sum + limit + least[rest ^ company]);
                }
            }
            return best;
        }
    }

    private static final class LineUp {
        private final Archive archive;
        private final Scores scores;
        private final int[] recordings;
        private final int[] distances;
        private int size;

        LineUp(Archive archive, Scores scores) {
            this.archive = archive;
            this.scores = scores;
            recordings = new int[MOST_RECORDINGS];
            distances = new int[MOST_RECORDINGS];
            size = 0;
        }

        void callFor(int recording, int speakersInSet) {
            size = 0;
            for (int other = 0; other < archive.size(); other++) {
                if (other != recording && archive.isOfSet(other, speakersInSet)) {
                    int score = scores.between(recording, other);
                    if (score != NONE) {
                        insert(other, score);
                    }
                }
            }
        }

        /** They come by their numbers: one of a like SCORE goes behind those that are there. */
        private void insert(int other, int score) {
            int spot = size;
            for (; spot > 0 && distances[spot - 1] > score; spot--) {
                recordings[spot] = recordings[spot - 1];
                distances[spot] = distances[spot - 1];
            }
            recordings[spot] = other;
            distances[spot] = score;
            size++;
        }

        int at(int i) {
            return i >= 0 && i < size ? recordings[i] : NONE;
        }

        int speakersAhead(int speaker) {
            int ahead = 0;
            for (int i = 0; i < size; i++) {
                int who = archive.speakerOf(recordings[i]);
                if (who == speaker) {
                    return Integer.bitCount(ahead);
                }
                ahead |= 1 << who;
            }
            return NONE;
        }
    }

    private static final class BlindTests {
        private static final int RIGHT_SAME = 0;
        private static final int FALSE_SAME = 1;
        private static final int RIGHT_OTHER = 2;
        private static final int FALSE_OTHER = 3;
        private static final int SILENT = 4;
        private static final int SAYS_OTHER = 0;
        private static final int SAYS_SAME = 1;
        private static final int SAYS_NOTHING = 2;

        private final int[] outcomes;
        private int putSoFar;

        BlindTests() {
            outcomes = new int[OUTCOMES];
            putSoFar = 0;
        }

        boolean areOver() {
            return putSoFar >= MOST_TESTS;
        }

        int put(int score, int limit, boolean same) {
            putSoFar++;
            if (score == NONE) {
                outcomes[SILENT]++;
                return SAYS_NOTHING;
            }
            if (score <= limit) {
                outcomes[same ? RIGHT_SAME : FALSE_SAME]++;
                return SAYS_SAME;
            }
            outcomes[same ? FALSE_OTHER : RIGHT_OTHER]++;
            return SAYS_OTHER;
        }

        int outcome(int what) {
            return outcomes[what];
        }
    }
}
