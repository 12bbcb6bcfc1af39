import java.util.NoSuchElementException;
import java.util.function.Consumer;
import java.util.function.IntSupplier;

/** For each promise of the document: ordinary inputs, the edges that it names, and wrong inputs. */
public final class PromiseTests {
    private static final Class<?> NO_SUCH = NoSuchElementException.class;
    private static final Class<?> ARGUMENT = IllegalArgumentException.class;
    private static final Class<?> STATE = IllegalStateException.class;

    private static int wrong = 0;

    public static void main(String[] args) {
        promise1NewObject();
        promise2Feed();
        promise3Clear();
        promise4Search();
        promise4SearchStays();
        promise5Found();
        promise6Step();
        promise6StepPrefers();
        promise7Least();
        promise8Score();
        promise9Gaps();
        promise10Fit();
        promise11Count();
        fullRows();
        severalObjects();
        System.out.println(wrong == 0 ? "all promises hold" : wrong + " answers are wrong");
        if (wrong != 0) {
            System.exit(1);
        }
    }

    private static void promise1NewObject() {
        TextAligner x = new TextAligner();
        due("1: NONE", -1, () -> TextAligner.NONE);
        for (int what = 0; what <= 4; what++) {
            int asked = what;
            due("1: count of a new object " + what, 0, () -> x.count(asked));
        }
        due("1: least of a new object", -1, x::least);
        dueThrows("1: found of a new object", NO_SUCH, () -> x.found(0, 0));
        dueThrows("1: step of a new object", NO_SUCH, () -> x.step(0, 0));
        due("1: clear of a new pattern", 0, () -> x.clear(0));
        due("1: clear of a new text", 0, () -> x.clear(1));
        due("1: fit of empty rows", 0, () -> x.fit(0));
        due("1: fit of empty parts", 0, () -> x.fit(1));
        for (int one = 0; one < 8; one++) {
            for (int other = 0; other < 8; other++) {
                int a = one;
                int b = other;
                TextAligner fresh = new TextAligner();
                due("1: first score " + a + " " + b, a == b ? 1 : -1, () -> fresh.score(a, b, 0));
            }
        }
        TextAligner gap = of("", "abc");
        due("1: first costs of a gap", -5, () -> gap.fit(0));
    }

    private static void promise2Feed() {
        TextAligner x = new TextAligner();
        due("2: the lowest bits first, a to d", 16,
                () -> x.feed(0, 0x04030201, 0x08070605, 0x0c0b0a09, 0x100f0e0d));
        due("2: the text is another row", 0, () -> x.count(1));
        for (int sign = 1; sign <= 16; sign++) {
            int fed = sign;
            x.feed(1, fed, 0, 0, 0);
        }
        due("2: one by one or sixteen at once", 1, () -> x.search(0, 0));
        due("2: nothing is fed", 16, () -> x.feed(0, 0, 0, 0, 0));

        TextAligner zeros = new TextAligner();
        due("2: zeros between are none", 4,
                () -> zeros.feed(0, 0x02000100, 0, 0x00030000, 0x04000000));
        zeros.feed(1, 0x04030201, 0, 0, 0);
        due("2: zeros between leave the order", 1, () -> zeros.search(0, 0));

        TextAligner high = new TextAligner();
        due("2: signs up to 255", 4, () -> high.feed(0, -1, 0, 0, 0));
        high.feed(1, 255, 255, 255, 255);
        due("2: 255 four times", 1, () -> high.search(0, 0));
        TextAligner top = new TextAligner();
        top.feed(0, 0x80000000, 0, 0, 0);
        due("2: the highest bit alone is one sign", 1, () -> top.feed(1, 128, 0, 0, 0));
        due("2: which is 128", 1, () -> top.search(0, 0));

        fillsUp(0, 150);
        fillsUp(1, 300);
        dueRefused("2: row 2", NO_SUCH, x2 -> { }, x2 -> x2.feed(2, 1, 1, 1, 1));
        dueRefused("2: row -1", NO_SUCH, x2 -> { }, x2 -> x2.feed(-1, 0, 0, 0, 0));
        dueRefused("2: the row is looked at first", NO_SUCH,
                x2 -> fill(x2, 0, 150, 5), x2 -> x2.feed(2, 1, 1, 1, 1));
    }

    private static void fillsUp(int row, int most) {
        TextAligner x = new TextAligner();
        fill(x, row, most - 4, 7);
        due("2: up to the last sign", most, () -> x.feed(row, 1, 1, 0x0100, 1));
        due("2: a full row takes none", most, () -> x.feed(row, 0, 0, 0, 0));
        due("2: the other row has room", 1, () -> x.feed(1 - row, 1, 0, 0, 0));
        dueRefused("2: a full row", STATE, x2 -> fill(x2, row, most, 7),
                x2 -> x2.feed(row, 0, 0, 0, 1));
        dueRefused("2: one too many of five", STATE, x2 -> fill(x2, row, most - 4, 7),
                x2 -> x2.feed(row, 0x01010101, 0, 0, 0x01000000));
        int two = 0x00010001;
        Consumer<TextAligner> roomForThree = x2 -> fill(x2, row, most - 3, 7);
        dueRefused("2: two of a, two of b", STATE, roomForThree, x2 -> x2.feed(row, two, two, 0, 0));
        dueRefused("2: two of b, two of c", STATE, roomForThree, x2 -> x2.feed(row, 0, two, two, 0));
        dueRefused("2: two of c, two of d", STATE, roomForThree, x2 -> x2.feed(row, 0, 0, two, two));
        TextAligner again = new TextAligner();
        fill(again, row, most - 1, 7);
        dueThrows("2: two where one has room", STATE, () -> again.feed(row, 0x0101, 0, 0, 0));
        due("2: one still comes in behind that", most, () -> again.feed(row, 1, 0, 0, 0));
    }

    private static void promise3Clear() {
        TextAligner x = of("abc", "abcde");
        x.search(2, 0);
        due("3: the pattern had", 3, () -> x.clear(0));
        due("3: it is empty", 0, () -> x.count(0));
        due("3: the text is not", 5, () -> x.count(1));
        due("3: an empty row", 0, () -> x.clear(0));
        due("3: the text had", 5, () -> x.clear(1));
        due("3: the text is empty, too", 0, () -> x.count(1));
        due("3: what was found stays", 1, () -> x.count(2));
        due("3: and its script", 0, () -> x.step(0, 2));
        due("3: a cleared row takes signs", 1, () -> x.feed(0, 'z', 0, 0, 0));
        x.feed(1, 'z', 0, 0, 0);
        due("3: none of the old signs is left", 1, () -> x.search(0, 0));
        TextAligner full = new TextAligner();
        fill(full, 1, 300, 9);
        due("3: a full text", 300, () -> full.clear(1));
        due("3: has room again", 16,
                () -> full.feed(1, 0x01010101, 0x01010101, 0x01010101, 0x01010101));
        TextAligner kept = of("abc", "abc");
        kept.gaps(7, 7);
        kept.score(1, 1, 50);
        kept.clear(0);
        due("3: gaps stay", -28, () -> kept.fit(0));
        due("3: scores stay", 50, () -> kept.score(1, 1, 0));
        dueRefused("3: row 2", NO_SUCH, x2 -> feed(x2, 0, "ab"), x2 -> x2.clear(2));
        dueRefused("3: row -1", NO_SUCH, x2 -> feed(x2, 1, "ab"), x2 -> x2.clear(-1));
    }

    private static void promise4Search() {
        TextAligner x = of("annual", "annealing");
        due("4: the whole text, below its distance", 0, () -> x.search(0, 3));
        due("4: the whole text, at its distance", 1, () -> x.search(0, 4));
        due("4: its beginnings", 6, () -> x.search(1, 3));
        dueFound("4: the first of these", x, 0, 3, 3, 0);
        dueFound("4: the last of these", x, 5, 8, 3, 0);
        due("4: any part", 1, () -> x.search(2, 1));
        dueFound("4: the part", x, 0, 6, 1, 0);

        TextAligner late = of("abc", "xxabcxx");
        due("4: a part inside", 1, () -> late.search(2, 0));
        dueFound("4: begins inside", late, 0, 5, 0, 2);
        due("4: every place within the pattern's length", 8, () -> late.search(2, 3));
        dueFound("4: an empty part starts at its end", late, 0, 0, 3, 0);
        dueFound("4: the last start", late, 2, 2, 3, 2);
        dueFound("4: one left out", late, 4, 4, 1, 2);
        dueFound("4: one put in", late, 6, 6, 1, 2);

        TextAligner starts = of("ab", "aab");
        starts.search(2, 0);
        dueFound("4: the last of the starts", starts, 0, 3, 0, 1);
        TextAligner same = of("aba", "ababa");
        due("4: parts that overlap", 2, () -> same.search(2, 0));
        dueFound("4: the first", same, 0, 3, 0, 0);
        dueFound("4: the second", same, 1, 5, 0, 2);
        TextAligner mixed = of("ba", "aa");
        mixed.search(2, 1);
        dueFound("4: a start with the same distance, but later", mixed, 1, 2, 1, 1);

        TextAligner noPattern = of("", "abc");
        due("4: an empty pattern, any part", 4, () -> noPattern.search(2, 0));
        dueFound("4: is found empty", noPattern, 3, 3, 0, 3);
        due("4: an empty pattern, beginnings", 3, () -> noPattern.search(1, 2));
        due("4: an empty pattern, the whole", 0, () -> noPattern.search(0, 2));
        TextAligner noText = of("abc", "");
        for (int mode = 0; mode <= 2; mode++) {
            int asked = mode;
            due("4: an empty text, bound 2, mode " + mode, 0, () -> noText.search(asked, 2));
            due("4: an empty text, bound 3, mode " + mode, 1, () -> noText.search(asked, 3));
        }
        TextAligner empty = new TextAligner();
        for (int mode = 0; mode <= 2; mode++) {
            int asked = mode;
            due("4: both empty, mode " + mode, 1, () -> empty.search(asked, 0));
        }
        TextAligner kinds = new TextAligner();
        kinds.feed(0, 1, 0, 0, 0);
        kinds.feed(1, 9, 0, 0, 0);
        due("4: signs of one kind are not the same", 0, () -> kinds.search(0, 0));
    }

    private static void promise4SearchStays() {
        TextAligner x = of("abc", "xabcx");
        x.search(2, 1);
        String before = foundOf(x);
        feed(x, 0, "qq");
        feed(x, 1, "abcabc");
        due("4: what was found stays when rows are fed", before, foundOf(x));
        x.clear(0);
        x.clear(1);
        due("4: and when they are cleared", before, foundOf(x));
        feed(x, 0, "zzz");
        feed(x, 1, "yyyyyyy");
        due("4: and when others are fed", before, foundOf(x));
        x.fit(0);
        x.fit(1);
        x.score(1, 2, 9);
        x.gaps(0, 0);
        due("4: and behind fits", before, foundOf(x));
        x.search(0, 450);
        due("4: till the next search", 7, () -> x.found(0, 1));
        due("4: which writes its own script", 1, () -> x.step(0, 0));
        x.search(2, 0);
        due("4: one that finds nothing", -1, x::least);
        dueThrows("4: leaves nothing", NO_SUCH, () -> x.found(0, 0));

        Consumer<TextAligner> searched = x2 -> {
            feed(x2, 0, "abc");
            feed(x2, 1, "xabcx");
            x2.search(2, 1);
        };
        dueRefused("4: mode 3", ARGUMENT, searched, x2 -> x2.search(3, 0));
        dueRefused("4: mode -1", ARGUMENT, searched, x2 -> x2.search(-1, 0));
        dueRefused("4: bound -1", ARGUMENT, searched, x2 -> x2.search(0, -1));
        dueRefused("4: bound 451", ARGUMENT, searched, x2 -> x2.search(2, 451));
        dueRefused("4: greatest numbers", ARGUMENT, searched,
                x2 -> x2.search(Integer.MAX_VALUE, Integer.MIN_VALUE));
    }

    private static void promise5Found() {
        TextAligner x = of("annual", "annealing");
        x.search(2, 2);
        dueFound("5: the first", x, 0, 5, 2, 0);
        dueFound("5: the second", x, 1, 6, 1, 0);
        dueFound("5: the third", x, 2, 7, 2, 0);
        due("5: its steps", 7, () -> x.found(2, 3));
        due("5: steps of the first", 6, () -> x.found(0, 3));

        TextAligner swapped = of("ab", "ba");
        swapped.search(0, 9);
        due("5: two ways, of which the changes come first", 2, () -> swapped.found(0, 3));
        TextAligner put = of("", "abc");
        put.search(0, 9);
        due("5: only put in", 3, () -> put.found(0, 3));
        TextAligner out = of("abc", "");
        out.search(0, 9);
        due("5: only left out", 3, () -> out.found(0, 3));
        TextAligner none = new TextAligner();
        none.search(2, 0);
        due("5: no step", 0, () -> none.found(0, 3));

        Consumer<TextAligner> searched = x2 -> {
            feed(x2, 0, "annual");
            feed(x2, 1, "annealing");
            x2.search(2, 2);
        };
        dueRefused("5: behind the last", NO_SUCH, searched, x2 -> x2.found(3, 0));
        dueRefused("5: ahead of the first", NO_SUCH, searched, x2 -> x2.found(-1, 3));
        dueRefused("5: what 4", ARGUMENT, searched, x2 -> x2.found(2, 4));
        dueRefused("5: what -1", ARGUMENT, searched, x2 -> x2.found(0, -1));
        dueRefused("5: the finding is looked at first", NO_SUCH, searched, x2 -> x2.found(3, 4));
        dueThrows("5: nothing was found", NO_SUCH, () -> new TextAligner().found(0, 4));
    }

    private static void promise6Step() {
        TextAligner x = of("annual", "annealing");
        x.search(0, 9);
        due("6: the script", "000100333", scriptOf(x, 0));
        x.search(2, 2);
        due("6: script of the third", "0001003", scriptOf(x, 2));
        due("6: script of the first", "000102", scriptOf(x, 0));
        due("6: script of the second", "000100", scriptOf(x, 1));
        due("6: from one to another", 3, () -> x.step(2, 6));
        due("6: and back", 2, () -> x.step(0, 5));
        Consumer<TextAligner> searched = x2 -> {
            feed(x2, 0, "annual");
            feed(x2, 1, "annealing");
            x2.search(2, 2);
        };
        dueRefused("6: behind the last finding", NO_SUCH, searched, x2 -> x2.step(3, 0));
        dueRefused("6: ahead of the first finding", NO_SUCH, searched, x2 -> x2.step(-1, 0));
        dueRefused("6: behind the last step", NO_SUCH, searched, x2 -> x2.step(1, 6));
        dueRefused("6: ahead of the first step", NO_SUCH, searched, x2 -> x2.step(1, -1));
        due("6: a part inside the text", "000", scriptOf(searchedFor("abc", "xxabcxx", 2, 0), 0));
        dueThrows("6: an empty script", NO_SUCH, () -> searchedFor("", "ab", 2, 0).step(0, 0));
    }

    private static void promise6StepPrefers() {
        due("6: changes ahead of out and in", "11", scriptOf(searchedFor("ab", "ba", 0, 9), 0));
        due("6: stays ahead of put in", "0333", scriptOf(searchedFor("a", "aaaa", 0, 9), 0));
        due("6: stays ahead of left out", "0222", scriptOf(searchedFor("aaaa", "a", 0, 9), 0));
        due("6: a change first, then put in", "13", scriptOf(searchedFor("a", "bc", 0, 9), 0));
        due("6: a change first, then left out", "12", scriptOf(searchedFor("bc", "a", 0, 9), 0));
        due("6: no change where it costs more", "3000", scriptOf(searchedFor("abc", "xabc", 0, 9), 0));
        due("6: left out where it must be", "2000", scriptOf(searchedFor("xabc", "abc", 0, 9), 0));
        // Left out first or put in first, with nothing else of that distance.
        due("6: left out ahead of put in", "20003",
                scriptOf(searchedFor("xabc", "abcx", 0, 9), 0));
        due("6: left out ahead of put in, where both lead on", "2000300",
                scriptOf(searchedFor("xabcde", "abcyde", 0, 9), 0));
    }

    private static void promise7Least() {
        TextAligner x = of("annual", "annealing");
        due("7: no search", -1, x::least);
        x.search(2, 2);
        due("7: the least is neither the first nor the last", 1, x::least);
        x.search(0, 3);
        due("7: nothing was found", -1, x::least);
        x.search(0, 450);
        due("7: the only one", 4, x::least);
        x.clear(0);
        x.clear(1);
        due("7: stays when rows are cleared", 4, x::least);
        x.search(0, 0);
        due("7: zero", 0, x::least);
        due("7: the first is the least", 0, searchedFor("", "ab", 1, 9)::least);
        due("7: the last is the least", 0, searchedFor("ab", "ab", 1, 9)::least);
    }

    private static void promise8Score() {
        TextAligner x = new TextAligner();
        due("8: what it was", -1, () -> x.score(2, 5, 30));
        due("8: both ways", 30, () -> x.score(5, 2, 1000));
        due("8: both ways back", 1000, () -> x.score(2, 5, -1000));
        due("8: the least", -1000, () -> x.score(2, 5, 0));
        due("8: the same kinds", 1, () -> x.score(7, 7, 4));
        due("8: the same kinds again", 4, () -> x.score(7, 7, 0));
        due("8: no other kind", 1, () -> x.score(5, 5, 1));
        due("8: nor this", -1, () -> x.score(2, 4, -1));

        TextAligner fits = new TextAligner();
        fits.feed(0, 10, 0, 0, 0);
        fits.feed(1, 253, 0, 0, 0);
        fits.score(5, 2, 77);
        due("8: kinds are signs modulo 8", 77, () -> fits.fit(0));
        fits.feed(0, 8, 0, 0, 0);
        fits.feed(1, 248, 0, 0, 0);
        fits.score(0, 0, 100);
        due("8: kind 0", 177, () -> fits.fit(0));

        Consumer<TextAligner> nothing = x2 -> { };
        dueRefused("8: kind 8", NO_SUCH, nothing, x2 -> x2.score(8, 0, 0));
        dueRefused("8: other kind 8", NO_SUCH, nothing, x2 -> x2.score(0, 8, 0));
        dueRefused("8: kind -1", NO_SUCH, nothing, x2 -> x2.score(-1, 0, 0));
        dueRefused("8: other kind -1", NO_SUCH, nothing, x2 -> x2.score(0, -1, 0));
        dueRefused("8: 1001", ARGUMENT, nothing, x2 -> x2.score(0, 0, 1001));
        dueRefused("8: -1001", ARGUMENT, nothing, x2 -> x2.score(3, 4, -1001));
        dueRefused("8: the kinds are looked at first", NO_SUCH, nothing,
                x2 -> x2.score(8, 0, 1001));
    }

    private static void promise9Gaps() {
        TextAligner x = of("", "abcd");
        x.gaps(10, 3);
        due("9: an opening and four extensions", -22, () -> x.fit(0));
        x.gaps(1000, 1000);
        due("9: the greatest", -5000, () -> x.fit(0));
        x.gaps(0, 0);
        due("9: the least", 0, () -> x.fit(0));
        x.gaps(0, 5);
        due("9: an extension alone", -20, () -> x.fit(0));
        x.gaps(5, 0);
        due("9: an opening alone", -5, () -> x.fit(0));
        Consumer<TextAligner> rows = x2 -> {
            feed(x2, 0, "abcd");
            x2.gaps(3, 4);
        };
        dueRefused("9: opening -1", ARGUMENT, rows, x2 -> gaps(x2, -1, 0));
        dueRefused("9: opening 1001", ARGUMENT, rows, x2 -> gaps(x2, 1001, 0));
        dueRefused("9: extension -1", ARGUMENT, rows, x2 -> gaps(x2, 0, -1));
        dueRefused("9: extension 1001", ARGUMENT, rows, x2 -> gaps(x2, 0, 1001));
    }

    private static void promise10Fit() {
        TextAligner x = of("annual", "annealing");
        due("10: whole rows", 1, () -> x.fit(0));
        due("10: parts", 6, () -> x.fit(1));
        due("10: nothing is found by it", 0, () -> x.count(2));

        TextAligner oneGap = of("abcd", "ad");
        due("10: one gap is better than two", -2, () -> oneGap.fit(0));
        TextAligner twoGaps = of("a", "b");
        twoGaps.score(1, 2, -1000);
        due("10: gaps in both rows are two", -6, () -> twoGaps.fit(0));
        twoGaps.gaps(0, 7);
        due("10: of one sign each", -14, () -> twoGaps.fit(0));
        twoGaps.gaps(1000, 1000);
        due("10: opposite, where gaps cost more", -1000, () -> twoGaps.fit(0));
        due("10: parts are at least 0", 0, () -> twoGaps.fit(1));
        TextAligner inner = of("aba", "aca");
        inner.score(2, 3, -1000);
        inner.score(1, 1, 10);
        due("10: two gaps inside", 14, () -> inner.fit(0));
        due("10: two gaps inside parts", 14, () -> inner.fit(1));
        inner.score(1, 1, 5);
        due("10: a part alone, where gaps cost as much", 5, () -> inner.fit(1));
        TextAligner far = of("abcdab", "xxabab");
        far.score(1, 1, 9);
        far.score(2, 2, 9);
        due("10: a gap within parts", 32, () -> far.fit(1));
        due("10: noPattern", -5, () -> of("", "abc").fit(0));
        due("10: noText", -8, () -> of("abcabc", "").fit(0));
        due("10: parts of no pattern", 0, () -> of("", "abc").fit(1));
        due("10: parts of no text", 0, () -> of("abc", "").fit(1));
        due("10: signs of one kind fit", 1, () -> of("a", "i").fit(0));
        TextAligner negative = of("aa", "aa");
        negative.score(1, 1, -1);
        due("10: below zero", -2, () -> negative.fit(0));

        Consumer<TextAligner> rows = x2 -> {
            feed(x2, 0, "abcd");
            feed(x2, 1, "bcda");
        };
        dueRefused("10: mode 2", ARGUMENT, rows, x2 -> x2.fit(2));
        dueRefused("10: mode -1", ARGUMENT, rows, x2 -> x2.fit(-1));
    }

    private static void promise11Count() {
        TextAligner x = of("abc", "xabcxabc");
        due("11: signs of the pattern", 3, () -> x.count(0));
        due("11: signs of the text", 8, () -> x.count(1));
        due("11: no search", 0, () -> x.count(2));
        x.search(2, 0);
        due("11: what the search found", 2, () -> x.count(2));
        dueEnds("11: without a fit, the first in the text", x, 3, 4);
        x.fit(1);
        dueEnds("11: behind a fit", x, 3, 4);
        x.fit(0);
        dueEnds("11: behind the other fit", x, 3, 4);
        x.score(3, 3, -1000);
        dueEnds("11: with other scores", x, 2, 3);
        x.score(3, 3, 1);
        x.clear(1);
        dueEnds("11: without a text", x, 0, 0);
        due("11: found stays", 2, () -> x.count(2));
        feed(x, 1, "cab");
        dueEnds("11: with another text", x, 2, 3);

        dueEnds("11: the least place in the pattern", of("ab", "ba"), 1, 2);
        dueEnds("11: and of these in the text", of("a", "baba"), 1, 2);
        dueEnds("11: nothing fits", of("a", "b"), 0, 0);
        TextAligner free = of("abc", "axb");
        free.gaps(0, 0);
        dueEnds("11: gaps that cost nothing", free, 2, 3);
        TextAligner nil = of("abc", "abc");
        nil.score(2, 2, 0);
        nil.score(3, 3, 0);
        dueEnds("11: what adds nothing is not waited for", nil, 1, 1);
        TextAligner zero = of("ab", "ab");
        zero.score(1, 1, 0);
        zero.score(2, 2, 0);
        dueEnds("11: 0 both if it is 0", zero, 0, 0);

        Consumer<TextAligner> rows = x2 -> feed(x2, 0, "abcd");
        dueRefused("11: what 5", ARGUMENT, rows, x2 -> x2.count(5));
        dueRefused("11: what -1", ARGUMENT, rows, x2 -> x2.count(-1));
    }

    private static void fullRows() {
        TextAligner same = new TextAligner();
        fill(same, 0, 150, 1);
        fill(same, 1, 300, 1);
        due("full: any part", 151, () -> same.search(2, 0));
        dueFound("full: the last", same, 150, 300, 0, 150);
        due("full: all beginnings", 301, () -> same.search(1, 450));
        due("full: the whole", 1, () -> same.search(0, 150));
        due("full: its script", "0".repeat(150) + "3".repeat(150), scriptOf(same, 0));
        due("full: fit", 150 - 152, () -> same.fit(0));
        due("full: parts", 150, () -> same.fit(1));
        dueEnds("full: ends", same, 150, 150);

        TextAligner other = new TextAligner();
        fill(other, 0, 150, 1);
        fill(other, 1, 300, 2);
        other.gaps(1000, 1000);
        other.score(1, 2, -1000);
        due("full: any part of others", 0, () -> other.search(2, 149));
        due("full: empty parts of others", 301, () -> other.search(2, 150));
        dueFound("full: an empty part", other, 300, 300, 150, 300);
        due("full: the whole of others", 0, () -> other.search(0, 299));
        due("full: the whole of others, bound 300", 1, () -> other.search(0, 300));
        due("full: script of others", "1".repeat(150) + "3".repeat(150), scriptOf(other, 0));
        due("full: the lowest fit", -150 * 1000 - 1000 - 150 * 1000, () -> other.fit(0));
        other.score(1, 2, 1000);
        due("full: the greatest fit of parts", 150000, () -> other.fit(1));
    }

    private static void severalObjects() {
        TextAligner one = of("abc", "abc");
        TextAligner other = of("xyz", "xxxyz");
        one.search(0, 9);
        other.search(0, 9);
        one.score(1, 1, 500);
        one.gaps(900, 900);
        due("objects: found of the one", "000", scriptOf(one, 0));
        due("objects: found of the other", "03300", scriptOf(other, 0));
        due("objects: scores of the other", 1, () -> other.score(1, 1, 1));
        due("objects: gaps of the other", -1, () -> other.fit(0));
    }

    private static int gaps(TextAligner x, int opening, int extension) {
        x.gaps(opening, extension);
        return 0;
    }

    private static TextAligner of(String pattern, String text) {
        TextAligner x = new TextAligner();
        feed(x, 0, pattern);
        feed(x, 1, text);
        return x;
    }

    private static TextAligner searchedFor(String pattern, String text, int mode, int bound) {
        TextAligner x = of(pattern, text);
        x.search(mode, bound);
        return x;
    }

    private static void feed(TextAligner x, int row, String signs) {
        for (int i = 0; i < signs.length(); i++) {
            x.feed(row, signs.charAt(i), 0, 0, 0);
        }
    }

    private static void fill(TextAligner x, int row, int signs, int sign) {
        for (int i = 0; i < signs; i++) {
            x.feed(row, sign, 0, 0, 0);
        }
    }

    private static String scriptOf(TextAligner x, int i) {
        StringBuilder steps = new StringBuilder();
        for (int j = 0; j < x.found(i, 3); j++) {
            steps.append(x.step(i, j));
        }
        return steps.toString();
    }

    private static String foundOf(TextAligner x) {
        StringBuilder all = new StringBuilder();
        all.append(x.count(2)).append(" least ").append(x.least());
        for (int i = 0; i < x.count(2); i++) {
            all.append("; ").append(x.found(i, 0)).append(' ').append(x.found(i, 1));
            all.append(' ').append(x.found(i, 2)).append(' ').append(x.found(i, 3));
            all.append(' ').append(scriptOf(x, i));
        }
        return all.toString();
    }

    /** All that can be seen of an object. It changes what was found, so it comes last. */
    private static String allOf(TextAligner x) {
        StringBuilder all = new StringBuilder(foundOf(x));
        for (int what = 0; what <= 4; what++) {
            all.append(" / ").append(x.count(what));
        }
        all.append(" / ").append(x.fit(0)).append(' ').append(x.fit(1));
        x.search(2, 450);
        all.append(" / ").append(foundOf(x));
        x.clear(0);
        all.append(" / ").append(x.fit(0));
        for (int one = 0; one < 8; one++) {
            for (int other = 0; other < 8; other++) {
                int v = x.score(one, other, 0);
                x.score(one, other, v);
                all.append(' ').append(v);
            }
        }
        // Gaps of one and of two signs tell opening and extension apart.
        x.clear(1);
        x.feed(1, 1, 0, 0, 0);
        all.append(" / ").append(x.fit(0));
        x.feed(1, 1, 0, 0, 0);
        return all.append(' ').append(x.fit(0)).toString();
    }

    private static void due(String what, int want, IntSupplier call) {
        int got;
        try {
            got = call.getAsInt();
        } catch (RuntimeException e) {
            say(what + ": threw " + e + ", due is " + want);
            return;
        }
        if (got != want) {
            say(what + ": answered " + got + ", due is " + want);
        }
    }

    private static void due(String what, String want, String got) {
        if (!got.equals(want)) {
            say(what + ": is " + got + ", due is " + want);
        }
    }

    private static void dueFound(String what, TextAligner x, int i, int end, int distance, int start) {
        due(what + ", end", end, () -> x.found(i, 0));
        due(what + ", distance", distance, () -> x.found(i, 1));
        due(what + ", start", start, () -> x.found(i, 2));
    }

    private static void dueEnds(String what, TextAligner x, int inPattern, int inText) {
        due(what + ", in the pattern", inPattern, () -> x.count(3));
        due(what + ", in the text", inText, () -> x.count(4));
    }

    private static void dueThrows(String what, Class<?> want, IntSupplier call) {
        try {
            int got = call.getAsInt();
            say(what + ": answered " + got + ", due is " + want);
        } catch (RuntimeException e) {
            if (e.getClass() != want) {
                say(what + ": threw " + e + ", due is " + want);
            }
        }
    }

    private interface Call {
        int on(TextAligner x);
    }

    /** The call throws, and leaves the object as its twin is, on which it was not made. */
    private static void dueRefused(String what, Class<?> want, Consumer<TextAligner> made, Call call) {
        TextAligner x = new TextAligner();
        TextAligner twin = new TextAligner();
        made.accept(x);
        made.accept(twin);
        dueThrows(what, want, () -> call.on(x));
        due(what + " changes nothing", allOf(twin), allOf(x));
    }

    private static void say(String what) {
        wrong++;
        System.out.println(what);
    }
}
