import java.util.NoSuchElementException;

public final class TextAligner {
    public static final int NONE = -1;

    private static final int MOST_IN_PATTERN = 150;
    private static final int MOST_IN_TEXT = 300;
    private static final int MOST_STEPS = 450;
    private static final int GREATEST_BOUND = 450;
    private static final int KINDS = 8;
    private static final int GREATEST_SCORE = 1000;
    private static final int GREATEST_COST = 1000;

    private static final int WHOLE_TEXT = 0;
    private static final int ANY_PART = 2;

    private static final int LEFT_OUT = 2;
    private static final int PUT_IN = 3;

    private final SignRow pattern;
    private final SignRow text;
    private final Scoring scoring;
    private final Findings findings;
    private final Script script;
    private final Fitting fitting;

    // Which finding the script was written for: a script is asked for step by step.
    private int scriptOf;

    public TextAligner() {
        pattern = new SignRow(MOST_IN_PATTERN);
        text = new SignRow(MOST_IN_TEXT);
        scoring = new Scoring();
        findings = new Findings();
        script = new Script();
        fitting = new Fitting();
        scriptOf = NONE;
    }

    public int feed(int row, int a, int b, int c, int d)
            throws java.util.NoSuchElementException, IllegalStateException {
        if (row != 0 && row != 1) {
            throw new NoSuchElementException("there is no such row");
        }
        SignRow fed = row == 0 ? pattern : text;
        if (signsIn(a) + signsIn(b) + signsIn(c) + signsIn(d) > fed.room()) {
            throw new IllegalStateException("there would be too many signs");
        }
        fed.takeSignsOf(a);
        fed.takeSignsOf(b);
        fed.takeSignsOf(c);
        fed.takeSignsOf(d);
        return fed.size();
    }

    public int clear(int row) throws java.util.NoSuchElementException {
        if (row != 0 && row != 1) {
            throw new NoSuchElementException("there is no such row");
        }
        SignRow cleared = row == 0 ? pattern : text;
        int before = cleared.size();
        cleared.becomeEmpty();
        return before;
    }

    public int search(int mode, int bound) throws IllegalArgumentException {
        if (mode < WHOLE_TEXT || mode > ANY_PART) {
            throw new IllegalArgumentException("mode is not 0 .. 2");
        }
        if (bound < 0 || bound > GREATEST_BOUND) {
            throw new IllegalArgumentException("bound is not 0 .. 450");
        }
        findings.lookFor(pattern, text, mode, bound);
        scriptOf = NONE;
        return findings.size();
    }

    public int found(int i, int what)
            throws java.util.NoSuchElementException, IllegalArgumentException {
        if (i < 0 || i >= findings.size()) {
            throw new NoSuchElementException("there is no such finding");
        }
        switch (what) {
            case 0:
                return findings.endOf(i);
            case 1:
                return findings.distanceOf(i);
            case 2:
                return findings.startOf(i);
            case 3:
                writeScriptOf(i);
                return script.length();
            default:
                throw new IllegalArgumentException("what is not 0 .. 3");
        }
    }

    public int step(int i, int j) throws java.util.NoSuchElementException {
        if (i < 0 || i >= findings.size()) {
            throw new NoSuchElementException("there is no such finding");
        }
        writeScriptOf(i);
        if (j < 0 || j >= script.length()) {
            throw new NoSuchElementException("there is no such step");
        }
        return script.stepAt(j);
    }

    public int least() {
        return findings.leastDistance();
    }

    public int score(int one, int other, int v)
            throws java.util.NoSuchElementException, IllegalArgumentException {
        if (one < 0 || one >= KINDS || other < 0 || other >= KINDS) {
            throw new NoSuchElementException("there is no such kind");
        }
        if (v < -GREATEST_SCORE || v > GREATEST_SCORE) {
            throw new IllegalArgumentException("v is not -1000 .. 1000");
        }
        int before = scoring.ofKinds(one, other);
        scoring.putForKinds(one, other, v);
        return before;
    }

    public void gaps(int opening, int extension) throws IllegalArgumentException {
        if (opening < 0 || opening > GREATEST_COST) {
            throw new IllegalArgumentException("opening is not 0 .. 1000");
        }
        if (extension < 0 || extension > GREATEST_COST) {
            throw new IllegalArgumentException("extension is not 0 .. 1000");
        }
        scoring.putGapCosts(opening, extension);
    }

    public int fit(int mode) throws IllegalArgumentException {
        if (mode != 0 && mode != 1) {
            throw new IllegalArgumentException("mode is not 0 or 1");
        }
        if (mode == 0) {
            return fitting.ofWholeRows(pattern, text, scoring);
        }
        fitting.lookForBestParts(pattern, text, scoring);
        return fitting.best();
    }

    public int count(int what) throws IllegalArgumentException {
        switch (what) {
            case 0:
                return pattern.size();
            case 1:
                return text.size();
            case 2:
                return findings.size();
            case 3:
                fitting.lookForBestParts(pattern, text, scoring);
                return fitting.bestEndInPattern();
            case 4:
                fitting.lookForBestParts(pattern, text, scoring);
                return fitting.bestEndInText();
            default:
                throw new IllegalArgumentException("what is not 0 .. 4");
        }
    }

    private void writeScriptOf(int i) {
        if (scriptOf != i) {
            script.write(findings.searchedPattern(), findings.searchedText(),
                    findings.startOf(i), findings.endOf(i));
            scriptOf = i;
        }
    }

    private static int signsIn(int word) {
        int signs = 0;
        for (int shift = 0; shift < 32; shift += 8) {
            if (((word >>> shift) & 255) != 0) {
                signs++;
            }
        }
        return signs;
    }

    private static final class SignRow {
        private final int[] signs;
        private int size;

        SignRow(int most) {
            signs = new int[most];
            size = 0;
        }

        int size() {
            return size;
        }

        int room() {
            return signs.length - size;
        }

        int signBehind(int place) {
            return signs[place];
        }

        void takeSignsOf(int word) {
            for (int shift = 0; shift < 32; shift += 8) {
                int sign = (word >>> shift) & 255;
                if (sign != 0 && size < signs.length) {
                    signs[size] = sign;
                    size++;
                }
            }
        }

        void becomeEmpty() {
            size = 0;
        }

        void becomeCopyOf(SignRow other) {
            size = Math.min(other.size, signs.length);
            System.arraycopy(other.signs, 0, signs, 0, size);
        }
    }

    // What the latest search found, with the rows as they were then.
    private static final class Findings {
        private final SignRow pattern;
        private final SignRow text;
        private final int[] ends;
        private final int[] distances;
        private final int[] starts;
        private int size;

        // For each beginning of the pattern, by its length: the least distance to a part that ends
        // at the place that the search has come to, and the last start of such a part.
        private final int[] nearest;
        private final int[] lastStart;

        Findings() {
            pattern = new SignRow(MOST_IN_PATTERN);
            text = new SignRow(MOST_IN_TEXT);
            ends = new int[MOST_IN_TEXT + 1];
            distances = new int[MOST_IN_TEXT + 1];
            starts = new int[MOST_IN_TEXT + 1];
            size = 0;
            nearest = new int[MOST_IN_PATTERN + 1];
            lastStart = new int[MOST_IN_PATTERN + 1];
        }

        int size() {
            return size;
        }

        int endOf(int i) {
            return ends[i];
        }

        int distanceOf(int i) {
            return distances[i];
        }

        int startOf(int i) {
            return starts[i];
        }

        SignRow searchedPattern() {
            return pattern;
        }

        SignRow searchedText() {
            return text;
        }

        int leastDistance() {
            int least = NONE;
            for (int i = 0; i < size; i++) {
                if (least == NONE || distances[i] < least) {
                    least = distances[i];
                }
            }
            return least;
        }

        void lookFor(SignRow newPattern, SignRow newText, int mode, int bound) {
            pattern.becomeCopyOf(newPattern);
            text.becomeCopyOf(newText);
            size = 0;
            standAtFirstPlace();
            keepWithin(bound, 0, mode);
            for (int place = 1; place <= text.size(); place++) {
                moveTo(place, mode);
                keepWithin(bound, place, mode);
            }
        }

        private void standAtFirstPlace() {
            for (int length = 0; length <= pattern.size(); length++) {
                nearest[length] = length;
                lastStart[length] = 0;
            }
        }

        private void moveTo(int place, int mode) {
            int passed = text.signBehind(place - 1);
            int shorterNearest = nearest[0];
            int shorterStart = lastStart[0];
            nearest[0] = mode == ANY_PART ? 0 : place;
            lastStart[0] = mode == ANY_PART ? place : 0;
            for (int length = 1; length <= pattern.size(); length++) {
                int sameNearest = nearest[length];
                int sameStart = lastStart[length];
                int change = pattern.signBehind(length - 1) == passed ? 0 : 1;
                nearest[length] = shorterNearest + change;
                lastStart[length] = shorterStart;
                takeIfBetter(length, nearest[length - 1] + 1, lastStart[length - 1]);
                takeIfBetter(length, sameNearest + 1, sameStart);
                shorterNearest = sameNearest;
                shorterStart = sameStart;
            }
        }

        private void takeIfBetter(int length, int distance, int start) {
            if (distance < nearest[length]
                    || distance == nearest[length] && start > lastStart[length]) {
                nearest[length] = distance;
                lastStart[length] = start;
            }
        }

        private void keepWithin(int bound, int place, int mode) {
            int length = pattern.size();
            boolean partMayEndHere = mode != WHOLE_TEXT || place == text.size();
            if (partMayEndHere && nearest[length] <= bound && size < ends.length) {
                ends[size] = place;
                distances[size] = nearest[length];
                starts[size] = lastStart[length];
                size++;
            }
        }
    }

    private static final class Script {
        private final int[] steps;
        private int length;

        // The distance of what is left of the pattern behind a place of it to what is left of the
        // part behind a place of the text. It is measured from the end, since the script is
        // chosen by its first steps.
        private final int[][] rest;

        Script() {
            steps = new int[MOST_STEPS];
            length = 0;
            rest = new int[MOST_IN_PATTERN + 1][MOST_IN_TEXT + 1];
        }

        int length() {
            return length;
        }

        int stepAt(int j) {
            return steps[j];
        }

        void write(SignRow pattern, SignRow text, int start, int end) {
            measureRests(pattern, text, start, end);
            length = 0;
            int i = 0;
            int j = start;
            for (int n = 0; n < MOST_STEPS && (i < pattern.size() || j < end); n++) {
                int next = nextStep(pattern, text, i, j, end);
                steps[n] = next;
                length++;
                i += next == PUT_IN ? 0 : 1;
                j += next == LEFT_OUT ? 0 : 1;
            }
        }

        private void measureRests(SignRow pattern, SignRow text, int start, int end) {
            for (int j = start; j <= end; j++) {
                rest[pattern.size()][j] = end - j;
            }
            for (int i = pattern.size() - 1; i >= 0; i--) {
                rest[i][end] = pattern.size() - i;
                for (int j = end - 1; j >= start; j--) {
                    int opposite = rest[i + 1][j + 1] + changeAt(pattern, text, i, j);
                    int gap = Math.min(rest[i + 1][j], rest[i][j + 1]) + 1;
                    rest[i][j] = Math.min(opposite, gap);
                }
            }
        }

        private int nextStep(SignRow pattern, SignRow text, int i, int j, int end) {
            if (i >= pattern.size()) {
                return PUT_IN;
            }
            if (j >= end) {
                return LEFT_OUT;
            }
            int change = changeAt(pattern, text, i, j);
            if (rest[i][j] == rest[i + 1][j + 1] + change) {
                return change;
            }
            return rest[i][j] == rest[i + 1][j] + 1 ? LEFT_OUT : PUT_IN;
        }

        private static int changeAt(SignRow pattern, SignRow text, int i, int j) {
            return pattern.signBehind(i) == text.signBehind(j) ? 0 : 1;
        }
    }

    private static final class Scoring {
        private final int[][] table;
        private int opening;
        private int extension;

        Scoring() {
            table = new int[KINDS][KINDS];
            for (int one = 0; one < KINDS; one++) {
                for (int other = 0; other < KINDS; other++) {
                    table[one][other] = one == other ? 1 : -1;
                }
            }
            opening = 2;
            extension = 1;
        }

        int ofKinds(int one, int other) {
            return table[one][other];
        }

        int ofSigns(int one, int other) {
            return table[one % KINDS][other % KINDS];
        }

        void putForKinds(int one, int other, int v) {
            table[one][other] = v;
            table[other][one] = v;
        }

        void putGapCosts(int newOpening, int newExtension) {
            opening = newOpening;
            extension = newExtension;
        }

        int openingCost() {
            return opening;
        }

        int extensionCost() {
            return extension;
        }

        int costOfGap(int signs) {
            return signs == 0 ? 0 : opening + signs * extension;
        }
    }

    private static final class Fitting {
        // Far below every sum that can be, and far enough above the least int to be lessened.
        private static final int IMPOSSIBLE = -1000000000;

        // By the place in the text: how well what lies ahead of it fits what lies ahead of the
        // place in the pattern; and how well if a sign of the pattern is in a gap at the end.
        private final int[] fits;
        private final int[] fitsWithGap;

        private int best;
        private int bestEndInPattern;
        private int bestEndInText;

        Fitting() {
            fits = new int[MOST_IN_TEXT + 1];
            fitsWithGap = new int[MOST_IN_TEXT + 1];
            best = 0;
            bestEndInPattern = 0;
            bestEndInText = 0;
        }

        int best() {
            return best;
        }

        int bestEndInPattern() {
            return bestEndInPattern;
        }

        int bestEndInText() {
            return bestEndInText;
        }

        int ofWholeRows(SignRow pattern, SignRow text, Scoring scoring) {
            for (int j = 0; j <= text.size(); j++) {
                fits[j] = -scoring.costOfGap(j);
                fitsWithGap[j] = IMPOSSIBLE;
            }
            for (int i = 1; i <= pattern.size(); i++) {
                int ahead = -scoring.costOfGap(i);
                takeSign(pattern.signBehind(i - 1), text, scoring, ahead, IMPOSSIBLE);
            }
            return fits[text.size()];
        }

        void lookForBestParts(SignRow pattern, SignRow text, Scoring scoring) {
            best = 0;
            bestEndInPattern = 0;
            bestEndInText = 0;
            for (int j = 0; j <= text.size(); j++) {
                fits[j] = 0;
                fitsWithGap[j] = IMPOSSIBLE;
            }
            for (int i = 1; i <= pattern.size(); i++) {
                takeSign(pattern.signBehind(i - 1), text, scoring, 0, 0);
                keepBestOf(i, text.size());
            }
        }

        // Parts may begin anywhere: then no fit is below that of empty ones, which floor says.
        private void takeSign(int sign, SignRow text, Scoring scoring, int ahead, int floor) {
            int opening = scoring.openingCost();
            int extension = scoring.extensionCost();
            int shorterInBoth = fits[0];
            int withTextGap = IMPOSSIBLE;
            fits[0] = ahead;
            for (int j = 1; j <= text.size(); j++) {
                int shorterInPattern = fits[j];
                fitsWithGap[j] = Math.max(fitsWithGap[j], shorterInPattern - opening) - extension;
                withTextGap = Math.max(withTextGap, fits[j - 1] - opening) - extension;
                int opposite = shorterInBoth + scoring.ofSigns(sign, text.signBehind(j - 1));
                int withGap = Math.max(fitsWithGap[j], withTextGap);
                fits[j] = Math.max(Math.max(opposite, withGap), floor);
                shorterInBoth = shorterInPattern;
            }
        }

        // Only what is greater counts: so the first one, by places, stays.
        private void keepBestOf(int place, int textSize) {
            for (int j = 1; j <= textSize; j++) {
                if (fits[j] > best) {
                    best = fits[j];
                    bestEndInPattern = place;
                    bestEndInText = j;
                }
            }
        }
    }
}
