import java.util.Arrays;
import java.util.Random;

/**
 * Compares the class with the document's words taken as they stand: every part, every script and
 * every way of writing rows below one another is tried, on small rows.
 */
public final class PlainModelTests {
    // 1, 9 and 17 are of one kind, and 8 and 248 of another: signs that differ, kinds that do not.
    private static final int[] SIGNS = {1, 9, 2, 248, 8, 17};

    // More than one, to see whether something of an earlier round is left; three make fewer calls
    // than an object is used for.
    private static final int ROUNDS_OF_AN_OBJECT = 3;

    private static int wrong = 0;
    private static String at = "";

    private static int[][] table;
    private static int opening;
    private static int extension;

    public static void main(String[] args) {
        Random random = new Random(20261115);
        TextAligner x = new TextAligner();
        for (int round = 0; round < 4500; round++) {
            x = round % ROUNDS_OF_AN_OBJECT == 0 ? new TextAligner() : x;
            int variety = 1 + random.nextInt(SIGNS.length);
            int[] pattern = randomRow(random, 6, variety);
            int[] text = randomRow(random, 7, variety);
            compareSearch(x, pattern, text, random.nextInt(3), random.nextInt(9));
        }
        for (int round = 0; round < 1500; round++) {
            x = round % ROUNDS_OF_AN_OBJECT == 0 ? new TextAligner() : x;
            int variety = 1 + random.nextInt(SIGNS.length);
            int[] pattern = randomRow(random, 4, variety);
            int[] text = randomRow(random, 5, variety);
            randomScoring(random);
            compareFits(x, pattern, text);
        }
        System.out.println(wrong == 0 ? "the plain model agrees" : wrong + " answers are wrong");
        if (wrong != 0) {
            System.exit(1);
        }
    }

    private static int[] randomRow(Random random, int most, int variety) {
        int[] row = new int[random.nextInt(most + 1)];
        for (int i = 0; i < row.length; i++) {
            row[i] = SIGNS[random.nextInt(variety)];
        }
        return row;
    }

    private static void randomScoring(Random random) {
        table = new int[8][8];
        int range = random.nextInt(4) == 0 ? 1000 : 4;
        for (int one = 0; one < 8; one++) {
            for (int other = 0; other <= one; other++) {
                int v = random.nextInt(2 * range + 1) - range;
                table[one][other] = v;
                table[other][one] = v;
            }
        }
        opening = random.nextInt(range / 2 + 2);
        extension = random.nextInt(range / 2 + 1);
    }

    private static void feedRows(TextAligner x, int[] pattern, int[] text) {
        x.clear(0);
        x.clear(1);
        for (int sign : pattern) {
            x.feed(0, sign, 0, 0, 0);
        }
        for (int sign : text) {
            x.feed(1, sign, 0, 0, 0);
        }
    }

    private static void compareSearch(
            TextAligner x, int[] pattern, int[] text, int mode, int bound) {
        at = Arrays.toString(pattern) + " in " + Arrays.toString(text)
                + ", search(" + mode + ", " + bound + ")";
        feedRows(x, pattern, text);
        int answered = x.search(mode, bound);
        int found = 0;
        int least = TextAligner.NONE;
        for (int end = mode == 0 ? text.length : 0; end <= text.length; end++) {
            int start = mode == 2 ? lastStartOfNearest(pattern, text, end) : 0;
            int distance = distance(pattern, 0, text, start, end);
            if (distance > bound) {
                continue;
            }
            if (found >= answered) {
                due("found", answered, found + 1);
                return;
            }
            due("end", x.found(found, 0), end);
            due("distance", x.found(found, 1), distance);
            due("start", x.found(found, 2), start);
            compareScripts(x, found, firstScript(pattern, 0, text, start, end, distance));
            least = least == TextAligner.NONE ? distance : Math.min(least, distance);
            found++;
        }
        due("how many", answered, found);
        due("count(2)", x.count(2), found);
        due("least", x.least(), least);
    }

    private static void compareScripts(TextAligner x, int i, String script) {
        int steps = x.found(i, 3);
        due("steps", steps, script.length());
        for (int j = 0; j < Math.min(script.length(), steps); j++) {
            due("step " + j + " of " + script, x.step(i, j), script.charAt(j) - '0');
        }
    }

    private static int lastStartOfNearest(int[] pattern, int[] text, int end) {
        int nearest = Integer.MAX_VALUE;
        int last = 0;
        for (int start = 0; start <= end; start++) {
            int distance = distance(pattern, 0, text, start, end);
            if (distance <= nearest) {
                nearest = distance;
                last = start;
            }
        }
        return last;
    }

    private static int distance(int[] pattern, int i, int[] text, int j, int end) {
        if (i == pattern.length) {
            return end - j;
        }
        if (j == end) {
            return pattern.length - i;
        }
        int opposite = distance(pattern, i + 1, text, j + 1, end) + (pattern[i] == text[j] ? 0 : 1);
        int out = distance(pattern, i + 1, text, j, end) + 1;
        int in = distance(pattern, i, text, j + 1, end) + 1;
        return Math.min(opposite, Math.min(out, in));
    }

    /** The first script with so many changes, if scripts are tried in the order of preference. */
    private static String firstScript(int[] pattern, int i, int[] text, int j, int end, int left) {
        if (left < 0) {
            return null;
        }
        if (i == pattern.length && j == end) {
            return left == 0 ? "" : null;
        }
        String rest = null;
        if (i < pattern.length && j < end) {
            int change = pattern[i] == text[j] ? 0 : 1;
            rest = firstScript(pattern, i + 1, text, j + 1, end, left - change);
            if (rest != null) {
                return change + rest;
            }
        }
        if (i < pattern.length) {
            rest = firstScript(pattern, i + 1, text, j, end, left - 1);
            if (rest != null) {
                return "2" + rest;
            }
        }
        if (j < end) {
            rest = firstScript(pattern, i, text, j + 1, end, left - 1);
            if (rest != null) {
                return "3" + rest;
            }
        }
        return null;
    }

    private static void compareFits(TextAligner x, int[] pattern, int[] text) {
        feedRows(x, pattern, text);
        x.gaps(opening, extension);
        for (int one = 0; one < 8; one++) {
            for (int other = 0; other <= one; other++) {
                x.score(one, other, table[one][other]);
            }
        }
        at = Arrays.toString(pattern) + " and " + Arrays.toString(text)
                + ", gaps(" + opening + ", " + extension + ")";
        due("fit(0)", x.fit(0), fit(pattern, 0, pattern.length, text, 0, text.length, 'x'));
        int best = 0;
        int endInPattern = 0;
        int endInText = 0;
        for (int end = 0; end <= pattern.length; end++) {
            for (int textEnd = 0; textEnd <= text.length; textEnd++) {
                int here = bestFitOfPartsThatEnd(pattern, end, text, textEnd);
                if (here > best) {
                    best = here;
                    endInPattern = end;
                    endInText = textEnd;
                }
            }
        }
        due("fit(1)", x.fit(1), best);
        due("count(3)", x.count(3), endInPattern);
        due("count(4)", x.count(4), endInText);
    }

    private static int bestFitOfPartsThatEnd(int[] pattern, int end, int[] text, int textEnd) {
        int best = Integer.MIN_VALUE;
        for (int start = 0; start <= end; start++) {
            for (int textStart = 0; textStart <= textEnd; textStart++) {
                best = Math.max(best, fit(pattern, start, end, text, textStart, textEnd, 'x'));
            }
        }
        return best;
    }

    /** Before says what was written last: x two signs, p the pattern's alone, t the text's. */
    private static int fit(
            int[] pattern, int i, int end, int[] text, int j, int textEnd, char before) {
        if (i == end && j == textEnd) {
            return 0;
        }
        int best = Integer.MIN_VALUE;
        if (i < end && j < textEnd) {
            int score = table[pattern[i] % 8][text[j] % 8];
            best = score + fit(pattern, i + 1, end, text, j + 1, textEnd, 'x');
        }
        if (i < end) {
            int cost = extension + (before == 'p' ? 0 : opening);
            best = Math.max(best, fit(pattern, i + 1, end, text, j, textEnd, 'p') - cost);
        }
        if (j < textEnd) {
            int cost = extension + (before == 't' ? 0 : opening);
            best = Math.max(best, fit(pattern, i, end, text, j + 1, textEnd, 't') - cost);
        }
        return best;
    }

    private static void due(String what, int got, int want) {
        if (got != want) {
            wrong++;
            if (wrong <= 50) {
                System.out.println(at + ": " + what + " is " + got + ", due is " + want);
            }
        }
    }
}
