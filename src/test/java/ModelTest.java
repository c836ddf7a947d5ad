import java.util.ArrayList;
import java.util.Arrays;
import java.util.Comparator;
import java.util.HashSet;
import java.util.List;
import java.util.Random;
import java.util.Set;

/** Long runs of calls, right and wrong ones, against a slow model that goes by the document's words. */
public final class ModelTest {
    private static final int NONE = -1;
    private static final int RUNS = 400;
    private static final int CALLS = 512;

    private static int wrong = 0;
    private static long calls = 0;

    public static void main(String[] args) {
        for (int run = 0; run < RUNS && wrong < 20; run++) {
            new Run(run).play();
        }
        System.out.println(calls + " calls, " + wrong + " answers not as due");
        if (wrong != 0) {
            System.exit(1);
        }
    }

    /** One object, its model, and the sort of calls that this run makes. */
    private static final class Run {
        private final int number;
        private final Random random;
        private final VoiceHouse house = new VoiceHouse();
        private final Model model = new Model();
        private final int spread;
        private final int lostOf;
        private final int wrongOf;
        private final int speakers;
        private int made = 0;

        Run(int number) {
            this.number = number;
            random = new Random(number * 7919L + 17);
            spread = new int[] {3, 8, 20, 99}[number % 4];
            lostOf = new int[] {3, 6, 40}[number % 3];
            wrongOf = new int[] {6, 30}[number % 2];
            speakers = new int[] {2, 4, 10}[number / 4 % 3];
        }

        void play() {
            int first = random.nextInt(20);
            for (int i = 0; i < first; i++) {
                fullRecording();
            }
            while (made < CALLS && wrong < 20) {
                randomCall();
            }
        }

        private void fullRecording() {
            int recording = model.recordings.size();
            record(random.nextInt(4), speaker());
            for (int place = 0; place < 6; place++) {
                tone(recording, place, toneFor(recording));
            }
        }

        private int speaker() {
            return random.nextInt(8) == 0 ? NONE : random.nextInt(speakers);
        }

        private int toneFor(int recording) {
            if (random.nextInt(lostOf) == 0) {
                return NONE;
            }
            boolean known = recording >= 0 && recording < model.recordings.size();
            int middle = known ? 20 + 7 * model.recordings.get(recording)[1] : 40;
            return Math.max(0, Math.min(99, middle + random.nextInt(2 * spread + 1) - spread));
        }

        private int pick(int below) {
            if (random.nextInt(wrongOf) == 0) {
                int[] odd = {-1, -2, below, below + 1, Integer.MIN_VALUE, Integer.MAX_VALUE};
                return odd[random.nextInt(odd.length)];
            }
            return below <= 0 ? 0 : random.nextInt(below);
        }

        private int recording() {
            return pick(model.recordings.size());
        }

        private void record(int channel, int speaker) {
            check("record", house.record(channel, speaker), model.record(channel, speaker), channel, speaker);
        }

        private void tone(int recording, int place, int tone) {
            check("tone", house.tone(recording, place, tone), model.tone(recording, place, tone),
                    recording, place, tone);
        }

        private void randomCall() {
            int sort = random.nextInt(10);
            if (sort < 4) {
                change();
            } else if (sort < 7) {
                askOfPairs();
            } else {
                askOfVoices();
            }
        }

        private void change() {
            int a = recording();
            int b;
            switch (random.nextInt(12)) {
                case 0:
                    b = random.nextInt(3) == 0 ? pick(10) : speaker();
                    record(pick(4), b);
                    break;
                case 1:
                    b = random.nextInt(3) == 0 ? pick(10) : speaker();
                    check("know", house.know(a, b), model.know(a, b), a, b);
                    break;
                case 2:
                    b = random.nextInt(3) == 0 ? pick(1024) : 1023 & ~(1 << random.nextInt(speakers));
                    check("set", house.set(b), model.set(b), b);
                    break;
                case 3:
                    b = pick(random.nextInt(4) == 0 ? 201 : 40);
                    check("limit", house.limit(b), model.limit(b), b);
                    break;
                case 4:
                case 5:
                case 6:
                    check("segment", house.segment(a), model.segment(a), a);
                    break;
                case 7:
                    if (random.nextInt(6) == 0) {
                        check("clear", house.clear(), model.clear());
                    }
                    break;
                case 8:
                    b = recording();
                    check("test", house.test(a, b), model.test(a, b), a, b);
                    break;
                default:
                    tone(a, pick(6), random.nextInt(5) == 0 ? pick(100) : toneFor(a));
            }
        }

        private void askOfPairs() {
            int a = recording();
            int b = recording();
            int channel = pick(4);
            int place = pick(6);
            int band = pick(10);
            switch (random.nextInt(7)) {
                case 0:
                    check("shift", house.shift(channel, place), model.shift(channel, place), channel, place);
                    break;
                case 1:
                    check("hidden", house.hidden(channel, place), model.hidden(channel, place), channel, place);
                    break;
                case 2:
                    check("score", house.score(a, b), model.score(a, b), a, b);
                    break;
                case 3:
                    int which = pick(2);
                    check("band", house.band(band, which), model.band(band, which), band, which);
                    break;
                case 4:
                    int end = pick(2);
                    check("block", house.block(band, end), model.block(band, end), band, end);
                    break;
                case 5:
                    int score = pick(random.nextInt(2) == 0 ? 100 : 400);
                    int what = pick(5);
                    check("odds", house.odds(score, what), model.odds(score, what), score, what);
                    break;
                default:
                    int number = pick(7);
                    check("count", house.count(number), model.count(number), number);
            }
        }

        private void askOfVoices() {
            int a = recording();
            switch (random.nextInt(7)) {
                case 0:
                    int k = pick(model.segments.size());
                    check("voice", house.voice(k), model.voice(k), k);
                    break;
                case 1:
                    check("voices", house.voices(), model.voices());
                    break;
                case 2:
                    check("spare", house.spare(), model.spare());
                    break;
                case 3:
                    int i = pick(model.recordings.size());
                    check("lined", house.lined(a, i), model.lined(a, i), a, i);
                    break;
                case 4:
                    int speaker = pick(speakers);
                    check("rank", house.rank(a, speaker), model.rank(a, speaker), a, speaker);
                    break;
                case 5:
                    int outcome = pick(5);
                    check("right", house.right(outcome), model.right(outcome), outcome);
                    break;
                default:
                    int what = random.nextInt(2) == 0 ? pick(3) : pick(16);
                    check("told", house.told(a, what), model.told(a, what), a, what);
            }
        }

        private void check(String call, boolean got, boolean want, int... arguments) {
            check(call, got ? 1 : 0, want ? 1 : 0, arguments);
        }

        private void check(String call, int got, int want, int... arguments) {
            made++;
            calls++;
            if (got != want) {
                wrong++;
                System.out.println("run " + number + ", call " + made + ": " + call + Arrays.toString(arguments)
                        + " answered " + got + ", due is " + want);
            }
        }
    }

    /** Nothing is kept but what came in; every answer is reckoned anew. */
    private static final class Model {
        // Of each: channel, speaker, six tones.
        private final List<int[]> recordings = new ArrayList<>();
        private final List<Integer> segments = new ArrayList<>();
        private final int[] outcomes = new int[5];
        private int speakers = 1023;
        private int limit = 20;

        private boolean is(int recording) {
            return recording >= 0 && recording < recordings.size();
        }

        private static boolean in(int value, int low, int high) {
            return value >= low && value <= high;
        }

        int record(int channel, int speaker) {
            if (!in(channel, 0, 3) || !in(speaker, -1, 9) || recordings.size() == 30) {
                return NONE;
            }
            recordings.add(new int[] {channel, speaker, -1, -1, -1, -1, -1, -1});
            return recordings.size() - 1;
        }

        boolean tone(int recording, int place, int tone) {
            boolean can = is(recording) && in(place, 0, 5) && in(tone, -1, 99);
            if (can) {
                recordings.get(recording)[2 + place] = tone;
            }
            return can;
        }

        boolean know(int recording, int speaker) {
            boolean can = is(recording) && in(speaker, -1, 9);
            if (can) {
                recordings.get(recording)[1] = speaker;
            }
            return can;
        }

        boolean set(int bits) {
            boolean can = in(bits, 0, 1023);
            speakers = can ? bits : speakers;
            return can;
        }

        boolean limit(int value) {
            boolean can = in(value, 0, 200);
            limit = can ? value : limit;
            return can;
        }

        /** Their sum and their number. */
        private int[] differences(int channel, int place) {
            int[] found = {0, 0};
            for (int[] a : recordings) {
                for (int[] b : recordings) {
                    if (channel != 0 && a[0] == channel && b[0] == 0 && a[1] == b[1] && a[1] != NONE
                            && a[2 + place] != NONE && b[2 + place] != NONE) {
                        found[0] += a[2 + place] - b[2 + place];
                        found[1]++;
                    }
                }
            }
            return found;
        }

        int shift(int channel, int place) {
            if (!in(channel, 0, 3) || !in(place, 0, 5)) {
                return Integer.MIN_VALUE;
            }
            int[] all = differences(channel, place);
            return all[1] == 0 ? 0 : (int) Math.floor((double) all[0] / all[1]);
        }

        boolean hidden(int channel, int place) {
            return in(channel, 1, 3) && in(place, 0, 5) && differences(channel, place)[1] == 0;
        }

        int score(int a, int b) {
            if (!is(a) || !is(b) || a == b) {
                return NONE;
            }
            int[] one = recordings.get(a);
            int[] other = recordings.get(b);
            List<Integer> gaps = new ArrayList<>();
            for (int place = 0; place < 6; place++) {
                if (one[2 + place] != NONE && other[2 + place] != NONE) {
                    int left = one[2 + place] - shift(one[0], place);
                    int right = other[2 + place] - shift(other[0], place);
                    gaps.add(Math.abs(left - right));
                }
            }
            int sum = gaps.stream().mapToInt(Integer::intValue).sum();
            return gaps.size() < 3 ? NONE : sum * 6 / gaps.size();
        }

        private boolean ofSet(int recording) {
            int speaker = recordings.get(recording)[1];
            return speaker != NONE && (speakers & 1 << speaker) != 0;
        }

        /** By bands: how many SAME, how many OTHER. */
        private int[][] bands() {
            int[][] found = new int[10][2];
            for (int a = 0; a < recordings.size(); a++) {
                for (int b = a + 1; b < recordings.size(); b++) {
                    if (!ofSet(a) || !ofSet(b)) {
                        continue;
                    }
                    int score = score(a, b);
                    if (score != NONE) {
                        int same = recordings.get(a)[1] == recordings.get(b)[1] ? 0 : 1;
                        found[score >= 90 ? 9 : score / 10][same]++;
                    }
                }
            }
            return found;
        }

        int band(int band, int what) {
            return in(band, 0, 9) && in(what, 0, 1) ? bands()[band][what] : NONE;
        }

        /** Each as: first band, last band, SAME, OTHER. */
        private List<int[]> blocks() {
            int[][] bands = bands();
            List<int[]> blocks = new ArrayList<>();
            for (int band = 0; band < 10; band++) {
                if (bands[band][0] + bands[band][1] > 0) {
                    blocks.add(new int[] {band, band, bands[band][0], bands[band][1]});
                }
            }
            int i = 0;
            while (i + 1 < blocks.size()) {
                int[] ahead = blocks.get(i);
                int[] later = blocks.get(i + 1);
                // Shares of at most 435 pairs that differ do so by more than a double's last digits.
                double shareAhead = (double) ahead[2] / (ahead[2] + ahead[3]);
                double shareLater = (double) later[2] / (later[2] + later[3]);
                if (shareLater > shareAhead - 1e-9) {
                    blocks.set(i, new int[] {ahead[0], later[1], ahead[2] + later[2], ahead[3] + later[3]});
                    blocks.remove(i + 1);
                    i = 0;
                } else {
                    i++;
                }
            }
            return blocks;
        }

        private int[] blockOf(int band) {
            if (!in(band, 0, 9) || Arrays.stream(bands()[band]).sum() == 0) {
                return null;
            }
            for (int[] block : blocks()) {
                if (in(band, block[0], block[1])) {
                    return block;
                }
            }
            return null;
        }

        int block(int band, int what) {
            int[] block = blockOf(band);
            return block != null && in(what, 0, 1) ? block[what] : NONE;
        }

        private int all(int sameOrOther) {
            return Arrays.stream(bands()).mapToInt(band -> band[sameOrOther]).sum();
        }

        int odds(int score, int what) {
            int[] block = score < 0 ? null : blockOf(score >= 90 ? 9 : score / 10);
            if (block == null || !in(what, 0, 4)) {
                return NONE;
            }
            return new int[] {block[2], all(0), block[3], all(1), block[2] * block[3] != 0 ? 1 : 0}[what];
        }

        int segment(int recording) {
            if (!is(recording) || segments.contains(recording) || segments.size() == 8) {
                return NONE;
            }
            segments.add(recording);
            return segments.size();
        }

        int clear() {
            int were = segments.size();
            segments.clear();
            return were;
        }

        /** The SCORES of all of one with all of another; null if one is missing. */
        private List<Integer> cross(List<Integer> one, List<Integer> other) {
            List<Integer> found = new ArrayList<>();
            for (int j : one) {
                for (int k : other) {
                    int score = score(segments.get(j), segments.get(k));
                    if (score == NONE) {
                        return null;
                    }
                    found.add(score);
                }
            }
            return found;
        }

        private List<List<Integer>> joined() {
            List<List<Integer>> voices = new ArrayList<>();
            for (int k = 0; k < segments.size(); k++) {
                voices.add(new ArrayList<>(List.of(k)));
            }
            while (true) {
                int[] best = null;
                long bestMean = Long.MAX_VALUE;
                for (int i = 0; i < voices.size(); i++) {
                    for (int j = i + 1; j < voices.size(); j++) {
                        List<Integer> scores = cross(voices.get(i), voices.get(j));
                        if (scores == null) {
                            continue;
                        }
                        // 5040 is whole by every number of pairs that two VOICES of eight can have.
                        long mean = scores.stream().mapToLong(Integer::longValue).sum() * 5040 / scores.size();
                        if (mean <= limit * 5040L && mean < bestMean) {
                            bestMean = mean;
                            best = new int[] {i, j};
                        }
                    }
                }
                if (best == null) {
                    return voices;
                }
                // Into the one ahead: the list stays in the order of first SEGMENTS.
                voices.get(best[0]).addAll(voices.remove(best[1]));
            }
        }

        int voice(int k) {
            for (List<Integer> voice : joined()) {
                if (voice.contains(k)) {
                    return voice.stream().min(Comparator.naturalOrder()).get();
                }
            }
            return NONE;
        }

        int voices() {
            return joined().size();
        }

        int spare() {
            return spareFrom(0, new ArrayList<>());
        }

        /** Every way: each SEGMENT goes into each VOICE there is, or into a new one. */
        private int spareFrom(int k, List<List<Integer>> voices) {
            if (k == segments.size()) {
                return limit * voices.size();
            }
            List<List<Integer>> more = new ArrayList<>(voices);
            more.add(List.of(k));
            int best = spareFrom(k + 1, more);
            for (int i = 0; i < voices.size(); i++) {
                List<Integer> scores = cross(List.of(k), voices.get(i));
                if (scores != null) {
                    List<Integer> larger = new ArrayList<>(voices.get(i));
                    larger.add(k);
                    List<List<Integer>> changed = new ArrayList<>(voices);
                    changed.set(i, larger);
                    int sum = scores.stream().mapToInt(Integer::intValue).sum();
                    best = Math.min(best, sum + spareFrom(k + 1, changed));
                }
            }
            return best;
        }

        private List<Integer> lineUp(int recording) {
            List<Integer> line = new ArrayList<>();
            for (int other = 0; other < recordings.size(); other++) {
                if (ofSet(other) && score(recording, other) != NONE) {
                    line.add(other);
                }
            }
            line.sort(Comparator.<Integer>comparingInt(other -> score(recording, other)).thenComparing(other -> other));
            return line;
        }

        int lined(int recording, int i) {
            List<Integer> line = lineUp(recording);
            return in(i, 0, line.size() - 1) ? line.get(i) : NONE;
        }

        int rank(int recording, int speaker) {
            Set<Integer> ahead = new HashSet<>();
            for (int other : lineUp(recording)) {
                int who = recordings.get(other)[1];
                if (who == speaker) {
                    return ahead.size();
                }
                ahead.add(who);
            }
            return NONE;
        }

        int test(int a, int b) {
            if (!is(a) || !is(b) || a == b || Arrays.stream(outcomes).sum() == 60) {
                return NONE;
            }
            int one = recordings.get(a)[1];
            int other = recordings.get(b)[1];
            if (one == NONE || other == NONE) {
                return NONE;
            }
            int score = score(a, b);
            int says = score == NONE ? 2 : score <= limit ? 1 : 0;
            int[][] counted = {{3, 2}, {0, 1}, {4, 4}};
            outcomes[counted[says][one == other ? 0 : 1]]++;
            return says;
        }

        int right(int what) {
            return in(what, 0, 4) ? outcomes[what] : NONE;
        }

        int told(int recording, int what) {
            if (!is(recording)) {
                return NONE;
            }
            int[] row = recordings.get(recording);
            if (what == 2) {
                return (int) Arrays.stream(row).skip(2).filter(tone -> tone != NONE).count();
            }
            return in(what, 0, 1) ? row[what] : in(what, 10, 15) ? row[what - 8] : NONE;
        }

        int count(int what) {
            switch (what) {
                case 0: return recordings.size();
                case 1: return all(0);
                case 2: return all(1);
                case 3: return blocks().size();
                case 4: return segments.size();
                case 5: return limit;
                case 6: return speakers;
                default: return NONE;
            }
        }
    }
}
