/** For each promise of the document, ordinary runs. Its boundary cases are in BoundaryTests. */
public final class PromiseTests extends Checks {
    public static void main(String[] args) {
        promise1NewObject();
        promise2Feed();
        promise3Clear();
        promise4Search();
        promise5Found();
        promise6Step();
        promise7Least();
        promise8Score();
        promise9Gaps();
        promise10Fit();
        promise11Count();
        severalObjects();
        finish("all promises hold");
    }

    private static void promise1NewObject() {
        sentence("1: a new object");
        TextAligner x = new TextAligner();
        due("its rows fit", 0, () -> x.fit(0));
        due("nothing was found", 0, () -> x.count(2));
        due("it can be fed", 3, () -> x.feed(0, 0x030201, 0, 0, 0));
    }

    private static void promise2Feed() {
        sentence("2: feed");
        TextAligner x = new TextAligner();
        due("four signs of a", 4, () -> x.feed(0, 0x64636261, 0, 0, 0));
        due("one of each word", 8, () -> x.feed(0, 'e', 'f', 'g', 'h'));
        due("the text is another row", 2, () -> x.feed(1, 0x6261, 0, 0, 0));
        due("the pattern has its signs", 8, () -> x.count(0));
        duePattern("in the order that they came", x, "abcdefgh");
    }

    private static void promise3Clear() {
        sentence("3: clear");
        TextAligner x = of("abc", "abcde");
        x.search(2, 0);
        due("the pattern had", 3, () -> x.clear(0));
        due("the text had", 5, () -> x.clear(1));
        due("what was found stays", "1 least 0; 3 0 0 000", foundOf(x));
        feed(x, 0, "z");
        feed(x, 1, "z");
        due("none of the old signs is left", 1, () -> x.search(0, 0));
        TextAligner kept = of("abc", "abc");
        kept.gaps(7, 7);
        kept.score(1, 1, 50);
        kept.clear(0);
        due("gaps stay", -28, () -> kept.fit(0));
        due("scores stay", 50, () -> kept.score(1, 1, 0));
    }

    private static void promise4Search() {
        sentence("4: search");
        TextAligner x = of("annual", "annealing");
        due("the whole text, below its distance", 0, () -> x.search(0, 3));
        due("the whole text, at its distance", 1, () -> x.search(0, 4));
        due("its beginnings", 6, () -> x.search(1, 3));
        dueFound("the first of these", x, 0, 3, 3, 0);
        dueFound("the last of these", x, 5, 8, 3, 0);
        due("any part", 1, () -> x.search(2, 1));
        dueFound("the part", x, 0, 6, 1, 0);

        TextAligner late = of("abc", "xxabcxx");
        due("a part inside", 1, () -> late.search(2, 0));
        dueFound("begins inside", late, 0, 5, 0, 2);
        due("every place within the pattern's length", 8, () -> late.search(2, 3));
        dueFound("the last start", late, 2, 2, 3, 2);
        dueFound("one left out", late, 4, 4, 1, 2);
        dueFound("one put in", late, 6, 6, 1, 2);

        TextAligner same = of("aba", "ababa");
        due("parts that overlap", 2, () -> same.search(2, 0));
        dueFound("the first", same, 0, 3, 0, 0);
        dueFound("the second", same, 1, 5, 0, 2);
    }

    private static void promise5Found() {
        sentence("5: found");
        TextAligner x = of("annual", "annealing");
        x.search(2, 2);
        dueFound("the first", x, 0, 5, 2, 0);
        dueFound("the second", x, 1, 6, 1, 0);
        dueFound("the third", x, 2, 7, 2, 0);
        due("steps of the third", 7, () -> x.found(2, 3));
        due("steps of the first", 6, () -> x.found(0, 3));
        due("a changed script is short", 2, () -> searchedFor("ab", "ba", 0, 9).found(0, 3));
        due("only put in", 3, () -> searchedFor("", "abc", 0, 9).found(0, 3));
        due("only left out", 3, () -> searchedFor("abc", "", 0, 9).found(0, 3));
    }

    private static void promise6Step() {
        sentence("6: step");
        TextAligner x = of("annual", "annealing");
        x.search(0, 9);
        due("the script", "000100333", scriptOf(x, 0));
        x.search(2, 2);
        due("script of the third", "0001003", scriptOf(x, 2));
        due("script of the first", "000102", scriptOf(x, 0));
        due("script of the second", "000100", scriptOf(x, 1));
        due("from one to another", 3, () -> x.step(2, 6));
        due("and back", 2, () -> x.step(0, 5));
        due("a part inside the text", "000", scriptOf(searchedFor("abc", "xxabcxx", 2, 0), 0));
        due("left out ahead of put in, where both lead on", "2000300",
                scriptOf(searchedFor("xabcde", "abcyde", 0, 9), 0));
    }

    private static void promise7Least() {
        sentence("7: least");
        TextAligner x = of("annual", "annealing");
        x.search(2, 2);
        due("neither the first nor the last", 1, x::least);
        x.search(0, 450);
        due("the only one", 4, x::least);
        x.clear(0);
        x.clear(1);
        due("stays when rows are cleared", 4, x::least);
        x.search(0, 0);
        due("till the next search", 0, x::least);
    }

    private static void promise8Score() {
        sentence("8: score");
        TextAligner x = new TextAligner();
        due("what it was", -1, () -> x.score(2, 5, 30));
        due("both ways", 30, () -> x.score(5, 2, 12));
        due("both ways back", 12, () -> x.score(2, 5, 0));
        TextAligner fits = of("\n", "\u00fd");
        fits.score(5, 2, 77);
        due("kinds are signs modulo 8", 77, () -> fits.fit(0));
    }

    private static void promise9Gaps() {
        sentence("9: gaps");
        TextAligner x = of("", "abcd");
        x.gaps(10, 3);
        due("an opening and four extensions", -22, () -> x.fit(0));
        x.gaps(0, 5);
        due("extensions alone", -20, () -> x.fit(0));
        x.gaps(5, 0);
        due("an opening alone", -5, () -> x.fit(0));
    }

    private static void promise10Fit() {
        sentence("10: fit");
        TextAligner x = of("annual", "annealing");
        due("whole rows", 1, () -> x.fit(0));
        due("parts", 6, () -> x.fit(1));
        due("one gap is better than two", -2, () -> of("abcd", "ad").fit(0));
        due("signs of one kind fit", 1, () -> of("a", "i").fit(0));
        TextAligner inner = of("aba", "aca");
        inner.score(2, 3, -1000);
        inner.score(1, 1, 10);
        due("two gaps inside", 14, () -> inner.fit(0));
        due("two gaps inside parts", 14, () -> inner.fit(1));
        inner.score(1, 1, 5);
        due("a part alone, where gaps cost as much", 5, () -> inner.fit(1));
        TextAligner far = of("abcdab", "xxabab");
        far.score(1, 1, 9);
        far.score(2, 2, 9);
        due("a gap within parts", 32, () -> far.fit(1));
    }

    private static void promise11Count() {
        sentence("11: count");
        TextAligner x = of("abc", "xabcxabc");
        due("signs of the pattern", 3, () -> x.count(0));
        due("signs of the text", 8, () -> x.count(1));
        x.search(2, 0);
        due("what the search found", 2, () -> x.count(2));
        // The document names no fit that must come ahead: the ends are of the rows as they are.
        dueEnds("without a fit, the first in the text", x, 3, 4);
        x.fit(1);
        dueEnds("behind a fit", x, 3, 4);
        x.fit(0);
        dueEnds("behind the other fit", x, 3, 4);
        x.score(3, 3, -1000);
        dueEnds("with other scores", x, 2, 3);
        x.score(3, 3, 1);
        x.clear(1);
        dueEnds("without a text", x, 0, 0);
        due("what was found stays", 2, () -> x.count(2));
        feed(x, 1, "cab");
        dueEnds("with another text", x, 2, 3);
        TextAligner free = of("abc", "axb");
        free.gaps(0, 0);
        dueEnds("gaps that cost nothing", free, 2, 3);
    }

    private static void severalObjects() {
        sentence("objects have nothing in common");
        TextAligner one = searchedFor("abc", "abc", 0, 9);
        TextAligner other = searchedFor("xyz", "xxxyz", 0, 9);
        one.score(1, 1, 500);
        one.gaps(900, 900);
        due("found of the one", "000", scriptOf(one, 0));
        due("found of the other", "03300", scriptOf(other, 0));
        due("scores of the other", 1, () -> other.score(1, 1, 1));
        due("gaps of the other", -1, () -> other.fit(0));
    }
}
