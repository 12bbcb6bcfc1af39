import java.util.NoSuchElementException;
import java.util.function.Consumer;
import java.util.function.IntSupplier;

/**
 * What the tests share: objects made of texts, what can be seen of them, and how answers are
 * compared with what is due. What an object answers behind its 512th call is free, so the helpers
 * are sparing with calls.
 */
abstract class Checks {
    static final Class<?> NO_SUCH = NoSuchElementException.class;
    static final Class<?> ARGUMENT = IllegalArgumentException.class;
    static final Class<?> STATE = IllegalStateException.class;

    private static int wrong = 0;
    private static String sentence = "";

    interface Call {
        int on(TextAligner x);
    }

    /** The words of the document that the checks behind it hold to. */
    static void sentence(String words) {
        sentence = words + " | ";
    }

    static void finish(String allIsWell) {
        System.out.println(wrong == 0 ? allIsWell : wrong + " answers are wrong");
        if (wrong != 0) {
            System.exit(1);
        }
    }

    static TextAligner of(String pattern, String text) {
        TextAligner x = new TextAligner();
        feed(x, 0, pattern);
        feed(x, 1, text);
        return x;
    }

    static TextAligner searchedFor(String pattern, String text, int mode, int bound) {
        TextAligner x = of(pattern, text);
        x.search(mode, bound);
        return x;
    }

    static void feed(TextAligner x, int row, String signs) {
        for (int at = 0; at < signs.length(); at += 16) {
            x.feed(row, word(signs, at), word(signs, at + 4), word(signs, at + 8),
                    word(signs, at + 12));
        }
    }

    private static int word(String signs, int from) {
        int word = 0;
        for (int i = from; i < Math.min(from + 4, signs.length()); i++) {
            word |= signs.charAt(i) << (8 * (i - from));
        }
        return word;
    }

    /** Signs that follow one another from the first one on, and begin again at 1 behind 255. */
    static String following(int first, int signs) {
        StringBuilder row = new StringBuilder();
        for (int i = 0; i < signs; i++) {
            row.append((char) (1 + (first - 1 + i) % 255));
        }
        return row.toString();
    }

    /**
     * Numbers that are not low .. high: next to its ends, the ends of int, and such as would be
     * inside if their higher bits were lost.
     */
    static int[] outside(int low, int high) {
        return new int[] {low - 1, high + 1, Integer.MIN_VALUE, Integer.MAX_VALUE,
            low + (1 << 16), high - (1 << 16), Integer.MIN_VALUE + high};
    }

    static String scriptOf(TextAligner x, int i) {
        StringBuilder steps = new StringBuilder();
        int length = x.found(i, 3);
        for (int j = 0; j < length; j++) {
            steps.append(x.step(i, j));
        }
        return steps.toString();
    }

    static String foundOf(TextAligner x) {
        StringBuilder all = new StringBuilder();
        int found = x.count(2);
        all.append(found).append(" least ").append(x.least());
        for (int i = 0; i < found; i++) {
            all.append("; ").append(x.found(i, 0)).append(' ').append(x.found(i, 1));
            all.append(' ').append(x.found(i, 2)).append(' ').append(scriptOf(x, i));
        }
        return all.toString();
    }

    /** All that can be seen of an object with short rows. It changes it, so it comes last. */
    static String allOf(TextAligner x) {
        StringBuilder all = new StringBuilder(foundOf(x));
        for (int what = 0; what <= 4; what++) {
            all.append(" / ").append(x.count(what));
        }
        all.append(" / ").append(x.fit(0)).append(' ').append(x.fit(1));
        x.search(2, 450);
        all.append(" / ").append(foundOf(x)).append(" /");
        for (int one = 0; one < 8; one++) {
            for (int other = 0; other < 8; other++) {
                int v = x.score(one, other, 0);
                x.score(one, other, v);
                all.append(' ').append(v);
            }
        }
        // Gaps of one and of two signs tell opening and extension apart.
        x.clear(0);
        x.clear(1);
        x.feed(1, 1, 0, 0, 0);
        all.append(" / ").append(x.fit(0));
        x.feed(1, 1, 0, 0, 0);
        return all.append(' ').append(x.fit(0)).toString();
    }

    static void due(String what, int want, IntSupplier call) {
        int got;
        try {
            got = call.getAsInt();
        } catch (RuntimeException e) {
            say(what + ": threw " + e + ", due is " + want);
            return;
        }
        if (got != want) {
            say(what + ": answered " + got + ", due is " + want);
        }
    }

    static void due(String what, String want, String got) {
        if (!got.equals(want)) {
            say(what + ": is " + got + ", due is " + want);
        }
    }

    static void dueFound(String what, TextAligner x, int i, int end, int distance, int start) {
        due(what + ", end", end, () -> x.found(i, 0));
        due(what + ", distance", distance, () -> x.found(i, 1));
        due(what + ", start", start, () -> x.found(i, 2));
    }

    static void dueEnds(String what, TextAligner x, int inPattern, int inText) {
        due(what + ", in the pattern", inPattern, () -> x.count(3));
        due(what + ", in the text", inText, () -> x.count(4));
    }

    /** The pattern holds these signs and no others. It changes the text, so it comes last. */
    static void duePattern(String what, TextAligner x, String pattern) {
        due(what + ", length of the pattern", pattern.length(), () -> x.count(0));
        x.clear(1);
        feed(x, 1, pattern);
        due(what + ", signs of the pattern", 1, () -> x.search(0, 0));
    }

    /** The text holds these signs and no others. It changes the pattern, so it comes last. */
    static void dueText(String what, TextAligner x, String text) {
        due(what + ", length of the text", text.length(), () -> x.count(1));
        for (int from = 0; from < text.length(); from += 150) {
            int end = Math.min(from + 150, text.length());
            x.clear(0);
            feed(x, 0, text.substring(from, end));
            x.search(2, 0);
            due(what + ", signs of the text up to " + end, 1, () -> foundAt(x, end));
        }
    }

    private static int foundAt(TextAligner x, int end) {
        int times = 0;
        int found = x.count(2);
        for (int i = 0; i < found; i++) {
            times += x.found(i, 0) == end ? 1 : 0;
        }
        return times;
    }

    static void dueThrows(String what, Class<?> want, IntSupplier call) {
        try {
            int got = call.getAsInt();
            say(what + ": answered " + got + ", due is " + want);
        } catch (RuntimeException e) {
            if (e.getClass() != want) {
                say(what + ": threw " + e + ", due is " + want);
            }
        }
    }

    /** The call throws, and leaves the object as its twin is, on which it was not made. */
    static void dueRefused(String what, Class<?> want, Consumer<TextAligner> made, Call call) {
        TextAligner x = new TextAligner();
        TextAligner twin = new TextAligner();
        made.accept(x);
        made.accept(twin);
        dueThrows(what, want, () -> call.on(x));
        due(what + " changes nothing", allOf(twin), allOf(x));
    }

    static void say(String what) {
        wrong++;
        System.out.println(sentence + what);
    }
}
