import java.util.function.Consumer;

/** For each sentence of the document that names a boundary case, a test of its own. */
public final class BoundaryTests extends Checks {
    private static final int MOST_IN_PATTERN = 150;
    private static final int MOST_IN_TEXT = 300;

    public static void main(String[] args) {
        lastCallOfAnObject();
        termPatternHasAtMost150();
        termTextHasAtMost300();
        termSignsAre1To255();
        termPlaces();
        termDistance();
        termModeWhole();
        termModeBeginnings();
        termModeAnyPart();
        termWithinTheBound();
        termByPlaces();
        termLeastDistance();
        termStart();
        termScriptFromBeginningToEnd();
        termScriptHasAsManyAsTheDistance();
        termScriptChosen();
        termKinds();
        termTableAtFirst();
        termGapCosts();
        termGapCostsAtFirst();
        termFit();
        termTwoGaps();
        termExceptionsInOrder();
        promise1NewObject();
        promise2LowestBitsFirst();
        promise2NoneIsZero();
        promise2HowManyThereAre();
        promise2NoSuchRow();
        promise2TooMany();
        promise3RowIsEmpty();
        promise3HowManyItHad();
        promise3NoSuchRow();
        promise4HowManyItFound();
        promise4WhatWasFoundStays();
        promise4NoSuchMode();
        promise4NoSuchBound();
        promise5NoSuchThing();
        promise5NoneOfThese();
        promise6NoSuchThing();
        promise6NoSuchStep();
        promise7NoneIfNothingWas();
        promise7LeastOfAll();
        promise8BothWays();
        promise8NoSuchKind();
        promise8NoSuchScore();
        promise9Costs();
        promise9NoSuchCost();
        promise10WholeRows();
        promise10AtLeastZero();
        promise10NoSuchMode();
        promise11Sizes();
        promise11LatestSearch();
        promise11LeastPlaces();
        promise11ZeroBoth();
        promise11NoneOfThese();
        finish("all boundaries hold");
    }

    private static void lastCallOfAnObject() {
        sentence("An object is used for at most 512 calls after it has been made");
        TextAligner x = searchedFor("abc", "xabcx", 2, 1);
        for (int call = 4; call <= 509; call++) {
            due("call " + call, 5, () -> x.count(1));
        }
        due("call 510", 1, () -> x.found(0, 1));
        due("call 511", 2, () -> x.step(0, 2));
        due("call 512", 3, () -> x.fit(1));
    }

    private static void termPatternHasAtMost150() {
        sentence("THE PATTERN has at most 150 SIGNS");
        fillsUpTo(0, MOST_IN_PATTERN);
        String full = following(200, MOST_IN_PATTERN);
        duePattern("a full pattern", of(full, "abc"), full);
    }

    private static void termTextHasAtMost300() {
        sentence("the TEXT at most 300");
        fillsUpTo(1, MOST_IN_TEXT);
        String full = following(100, MOST_IN_TEXT);
        dueText("a full text", of("abc", full), full);
    }

    private static void fillsUpTo(int row, int most) {
        TextAligner x = new TextAligner();
        feed(x, row, following(1, most - 2));
        due("the last but one", most - 1, () -> x.feed(row, 1, 0, 0, 0));
        due("the last one", most, () -> x.feed(row, 1, 0, 0, 0));
        dueThrows("one more", STATE, () -> x.feed(row, 1, 0, 0, 0));
        due("it has the most", most, () -> x.count(row));
        due("the other row has its own room", 1, () -> x.feed(1 - row, 1, 0, 0, 0));
    }

    private static void termSignsAre1To255() {
        sentence("SIGNS (1 .. 255)");
        String all = following(1, 255);
        for (int sign = 1; sign <= 255; sign++) {
            TextAligner x = of("" + (char) sign, all);
            due("sign " + sign + " is one", 1, () -> x.count(0));
            due("sign " + sign + " is like itself alone", 1, () -> x.search(2, 0));
            dueFound("sign " + sign, x, 0, sign, 0, sign - 1);
        }
    }

    private static void termPlaces() {
        sentence("Places lie between signs: place 0 is ahead of the first one.");
        TextAligner x = searchedFor("", "ab", 2, 0);
        dueFound("ahead of the first sign", x, 0, 0, 0, 0);
        dueFound("between the signs", x, 1, 1, 0, 1);
        dueFound("behind the last sign", x, 2, 2, 0, 2);
        TextAligner full = searchedFor("", following(1, MOST_IN_TEXT), 2, 0);
        dueFound("behind the last sign of a full text", full, 300, 300, 0, 300);
    }

    private static void termDistance() {
        sentence("THE DISTANCE of two rows of signs is how many steps it takes at least");
        dueDistance("the same", "abc", "abc", 0);
        dueDistance("both empty", "", "", 0);
        dueDistance("changed", "abc", "axc", 1);
        dueDistance("left out, the first", "abc", "bc", 1);
        dueDistance("left out, the last", "abc", "ab", 1);
        dueDistance("put in, ahead", "abc", "xabc", 1);
        dueDistance("put in, behind", "abc", "abcx", 1);
        dueDistance("exchanged neighbours are two steps", "ab", "ba", 2);
        dueDistance("fewer by gaps than by changes", "abcdef", "bcdefa", 2);
        dueDistance("one kind is not one sign", "a", "i", 1);
        dueDistance("nothing of a full pattern", following(1, 150), "", 150);
        dueDistance("a full text of nothing", "", following(1, 300), 300);
        dueDistance("full rows", following(1, 150), following(1, 300), 150);
        dueDistance("full rows of other signs", "a".repeat(150), "b".repeat(300), 300);
    }

    private static void dueDistance(String what, String pattern, String text, int distance) {
        due(what, distance, searchedFor(pattern, text, 0, 450)::least);
    }

    private static void termModeWhole() {
        sentence("0 the pattern is compared with the whole text");
        TextAligner x = of("ab", "abab");
        due("no beginning and no other part", 0, () -> x.search(0, 1));
        due("the whole", 1, () -> x.search(0, 2));
        dueFound("the whole", x, 0, 4, 2, 0);
        TextAligner behind = searchedFor("ab", "xab", 0, 450);
        dueFound("from place 0, where a later start were nearer", behind, 0, 3, 1, 0);
        TextAligner noText = searchedFor("ab", "", 0, 2);
        dueFound("the whole of an empty text", noText, 0, 0, 2, 0);
    }

    private static void termModeBeginnings() {
        sentence("1 with its beginnings");
        TextAligner x = of("ab", "abab");
        due("all of them", 5, () -> x.search(1, 2));
        dueFound("the empty one", x, 0, 0, 2, 0);
        dueFound("one that is a part of the pattern", x, 1, 1, 1, 0);
        dueFound("one that is the pattern", x, 2, 2, 0, 0);
        dueFound("the whole", x, 4, 4, 2, 0);
        TextAligner behind = of("ab", "xxab");
        due("no part that begins later", 0, () -> behind.search(1, 1));
        due("beginnings within 2", 4, () -> behind.search(1, 2));
        dueFound("the whole, from place 0", behind, 3, 4, 2, 0);
        TextAligner noText = searchedFor("ab", "", 1, 2);
        dueFound("the only beginning of an empty text", noText, 0, 0, 2, 0);
    }

    private static void termModeAnyPart() {
        sentence("2 with any part of it, the empty ones, too");
        TextAligner x = of("ab", "xaby");
        due("a part inside", 1, () -> x.search(2, 0));
        dueFound("a part inside", x, 0, 3, 0, 1);
        TextAligner other = of("ab", "xy");
        due("no part within 1", 0, () -> other.search(2, 1));
        due("empty parts at all places", 3, () -> other.search(2, 2));
        dueFound("the first empty part", other, 0, 0, 2, 0);
        dueFound("the second empty part", other, 1, 1, 2, 1);
        dueFound("the last empty part", other, 2, 2, 2, 2);
        TextAligner noPattern = of("", "xy");
        due("an empty pattern is every empty part", 3, () -> noPattern.search(2, 0));
        TextAligner noText = searchedFor("ab", "", 2, 2);
        dueFound("the empty part of an empty text", noText, 0, 0, 2, 0);
        due("an empty text has no nearer one", 0, () -> noText.search(2, 1));
    }

    private static void termWithinTheBound() {
        sentence("whose distance to the pattern is within the bound");
        for (int mode = 0; mode <= 2; mode++) {
            int asked = mode;
            TextAligner near = of("abcd", "abxd");
            due("above the bound, mode " + mode, 0, () -> near.search(asked, 0));
            due("at the bound, mode " + mode, 1, () -> near.search(asked, 1));
            TextAligner same = of("abcd", "abcd");
            due("bound 0, mode " + mode, 1, () -> same.search(asked, 0));
            TextAligner empty = new TextAligner();
            due("bound 0 of empty rows, mode " + mode, 1, () -> empty.search(asked, 0));
        }
        TextAligner far = of("a".repeat(150), "b".repeat(300));
        due("the whole, one above the bound", 0, () -> far.search(0, 299));
        due("the whole, at the bound", 1, () -> far.search(0, 300));
        due("beginnings, one above the bound", 0, () -> far.search(1, 149));
        due("beginnings, at the bound", 151, () -> far.search(1, 150));
        due("beginnings, all but the last", 300, () -> far.search(1, 299));
        due("beginnings, all", 301, () -> far.search(1, 300));
        due("parts, one above the bound", 0, () -> far.search(2, 149));
        due("parts, at the bound", 301, () -> far.search(2, 150));
        due("the greatest bound", 301, () -> far.search(2, 450));
    }

    private static void termByPlaces() {
        sentence("by places");
        TextAligner x = of("ab", "abxxabxab");
        due("three of them", 3, () -> x.search(2, 0));
        dueFound("the first", x, 0, 2, 0, 0);
        dueFound("the second", x, 1, 6, 0, 4);
        dueFound("the last, at the text's end", x, 2, 9, 0, 7);
        TextAligner full = searchedFor("a", "b".repeat(300), 2, 1);
        for (int i = 0; i <= 300; i++) {
            int place = i;
            due("every place once", place, () -> full.found(place, 0));
        }
    }

    private static void termLeastDistance() {
        sentence("each with the least DISTANCE of parts that end there");
        TextAligner x = searchedFor("abc", "abc", 2, 3);
        dueFound("the empty part alone", x, 0, 0, 3, 0);
        dueFound("an earlier start is nearer than the last one", x, 1, 1, 2, 0);
        dueFound("and here", x, 2, 2, 1, 0);
        dueFound("and here", x, 3, 3, 0, 0);
        TextAligner tail = searchedFor("abc", "abcxx", 2, 3);
        dueFound("a sign behind it", tail, 4, 4, 1, 0);
        dueFound("two signs behind it", tail, 5, 5, 2, 0);
    }

    private static void termStart() {
        sentence("the START: the last place at which a part with this distance begins");
        dueFound("of two starts", searchedFor("ab", "aab", 2, 0), 0, 3, 0, 1);
        dueFound("the empty part is last", searchedFor("a", "b", 2, 1), 1, 1, 1, 1);
        dueFound("left out is later than changed", searchedFor("ab", "xb", 2, 1), 0, 2, 1, 1);
        dueFound("no later one that is farther", searchedFor("aab", "aab", 2, 1), 1, 3, 0, 0);
        dueFound("an empty pattern", searchedFor("", "abc", 2, 450), 2, 2, 0, 2);
        dueFound("the whole has but one", searchedFor("ab", "aab", 0, 450), 0, 3, 1, 0);
        dueFound("a beginning has but one", searchedFor("", "abc", 1, 450), 2, 2, 2, 0);
        TextAligner full = searchedFor("a".repeat(150), "a".repeat(300), 2, 0);
        dueFound("the first of a full text", full, 0, 150, 0, 0);
        dueFound("the last of a full text", full, 150, 300, 0, 150);
    }

    private static void termScriptFromBeginningToEnd() {
        sentence("the steps from the pattern's beginning to its end, and the part's");
        dueScripts("abc", "xabcx");
        dueScripts("", "abc");
        dueScripts("abc", "");
        dueScripts("", "");
        dueScripts("abcdef", "bcxdaf");
        dueScript("full rows", following(1, 150), following(1, 300), 0);
        dueScript("full rows of other signs", "a".repeat(150), "b".repeat(300), 0);
        dueScript("a full pattern alone", following(1, 150), "", 0);
        dueScript("a full text alone", "", following(1, 300), 0);
        dueScript("more steps than a text has signs", following(1, 150),
                following(75, 76) + "\u00ff".repeat(224), 0);
        dueScript("a part at the end of a full text", following(50, 150),
                "\u0001".repeat(152) + following(50, 70) + following(122, 78), 2);
    }

    private static void dueScripts(String pattern, String text) {
        for (int mode = 0; mode <= 2; mode++) {
            dueScript("mode " + mode, pattern, text, mode);
        }
    }

    /** Goes along the last script that was found, and puts down what it makes of the pattern. */
    private static void dueScript(String what, String pattern, String text, int mode) {
        TextAligner x = searchedFor(pattern, text, mode, 450);
        int last = x.count(2) - 1;
        String steps = scriptOf(x, last);
        int start = x.found(last, 2);
        int end = x.found(last, 0);
        int i = 0;
        int j = start;
        int changes = 0;
        for (char step : steps.toCharArray()) {
            boolean ofPattern = step != '3';
            boolean ofText = step != '2';
            if (ofPattern && i >= pattern.length() || ofText && j >= end) {
                say(what + ": goes too far, " + steps);
                return;
            }
            boolean same = ofPattern && ofText && pattern.charAt(i) == text.charAt(j);
            if (step == '0' != same) {
                say(what + ": is wrong at " + i + ", " + j + ", " + steps);
            }
            i += ofPattern ? 1 : 0;
            j += ofText ? 1 : 0;
            changes += step == '0' ? 0 : 1;
        }
        due(what + ", signs of the pattern in " + steps, pattern.length() + "", i + "");
        due(what + ", end of the part in " + steps, end + "", j + "");
        due(what + ", changes in " + steps, x.found(last, 1) + "", changes + "");
    }

    private static void termScriptHasAsManyAsTheDistance() {
        sentence("as many of 1 .. 3 as the distance is");
        due("none", "000", scriptOf(searchedFor("abc", "abc", 0, 450), 0));
        due("no step", "", scriptOf(searchedFor("", "", 0, 450), 0));
        due("one changed", "010", scriptOf(searchedFor("abc", "axc", 0, 450), 0));
        due("one left out", "020", scriptOf(searchedFor("abc", "ac", 0, 450), 0));
        due("one put in", "0030", scriptOf(searchedFor("abc", "abxc", 0, 450), 0));
        due("all put in", "3".repeat(300), scriptOf(searchedFor("", "a".repeat(300), 0, 450), 0));
        due("all left out", "2".repeat(150), scriptOf(searchedFor("a".repeat(150), "", 0, 450), 0));
        due("fewer by gaps than by changes", "2".repeat(74) + "0".repeat(76) + "3".repeat(224),
                scriptOf(searchedFor(following(1, 150), following(75, 76) + "\u00ff".repeat(224),
                        0, 450), 0));
    }

    private static void termScriptChosen() {
        sentence("Of all such, the one that has 0 or 1 where they differ first, or else 2.");
        due("1 ahead of 2 and 3", "11", scriptOf(searchedFor("ab", "ba", 0, 450), 0));
        due("1 ahead of 3", "13", scriptOf(searchedFor("a", "bc", 0, 450), 0));
        due("1 ahead of 2", "12", scriptOf(searchedFor("bc", "a", 0, 450), 0));
        due("0 ahead of 3", "0333", scriptOf(searchedFor("a", "aaaa", 0, 450), 0));
        due("0 ahead of 2", "0222", scriptOf(searchedFor("aaaa", "a", 0, 450), 0));
        due("2 ahead of 3", "20003", scriptOf(searchedFor("xabc", "abcx", 0, 450), 0));
        due("where they differ first, not last", "0130",
                scriptOf(searchedFor("xay", "xbcy", 0, 450), 0));
        due("0 early, whatever comes behind", "003", scriptOf(searchedFor("aa", "aaa", 0, 450), 0));
        due("3 where nothing else will do", "3000",
                scriptOf(searchedFor("abc", "xabc", 0, 450), 0));
        due("full rows", "0".repeat(150) + "3".repeat(150),
                scriptOf(searchedFor("a".repeat(150), "a".repeat(300), 0, 450), 0));
        due("full rows of other signs", "1".repeat(150) + "3".repeat(150),
                scriptOf(searchedFor("a".repeat(150), "b".repeat(300), 0, 450), 0));
    }

    private static void termKinds() {
        sentence("a sign's kind is its number modulo 8");
        for (int sign = 1; sign <= 255; sign++) {
            TextAligner x = of("" + (char) sign, "");
            x.gaps(1000, 1000);
            for (int other = 1; other <= 8; other++) {
                x.feed(1, other, 0, 0, 0);
                due(sign + " opposite to " + other, sign % 8 == other % 8 ? 1 : -1, () -> x.fit(0));
                x.clear(1);
            }
        }
    }

    private static void termTableAtFirst() {
        sentence("At first 1 for the same kinds, else -1.");
        for (int one = 0; one < 8; one++) {
            for (int other = 0; other < 8; other++) {
                int a = one;
                int b = other;
                TextAligner x = new TextAligner();
                due("kinds " + a + " and " + b, a == b ? 1 : -1, () -> x.score(a, b, 0));
            }
        }
    }

    private static void termGapCosts() {
        sentence("A GAP of n signs (in either row, opposite to none) costs the OPENING and n");
        for (int n : new int[] {1, 2, 149, 150}) {
            dueGap("in the text", "a".repeat(n), "", n);
        }
        for (int n : new int[] {1, 2, 299, 300}) {
            dueGap("in the pattern", "", "a".repeat(n), n);
        }
        TextAligner none = new TextAligner();
        none.gaps(1000, 1000);
        due("no gap costs nothing", 0, () -> none.fit(0));
        TextAligner no = of("ab", "ab");
        no.gaps(1000, 1000);
        due("nor where all signs are opposite", 2, () -> no.fit(0));
        due("ahead, in the pattern", 0, () -> of("abc", "xabc").fit(0));
        due("inside, in the pattern", 0, () -> of("abc", "abxc").fit(0));
        due("behind, in the pattern", 0, () -> of("abc", "abcx").fit(0));
        due("ahead, in the text", 0, () -> of("xabc", "abc").fit(0));
        due("inside, in the text", 0, () -> of("abxc", "abc").fit(0));
        due("behind, in the text", 0, () -> of("abcx", "abc").fit(0));
        due("two signs, opened once", -1, () -> of("abc", "abxxc").fit(0));
        due("two gaps, opened twice", -3, () -> of("abc", "axbxc").fit(0));
    }

    private static void dueGap(String what, String pattern, String text, int n) {
        TextAligner x = of(pattern, text);
        x.gaps(1000, 0);
        due(what + ", opening of " + n, -1000, () -> x.fit(0));
        x.gaps(0, 1000);
        due(what + ", extensions of " + n, -1000 * n, () -> x.fit(0));
        x.gaps(1000, 1000);
        due(what + ", both of " + n, -1000 - 1000 * n, () -> x.fit(0));
    }

    private static void termGapCostsAtFirst() {
        sentence("at first 2 and 1");
        due("one sign", -3, () -> of("", "a").fit(0));
        due("two signs", -4, () -> of("ab", "").fit(0));
        due("three signs", -5, () -> of("", "abc").fit(0));
    }

    private static void termFit() {
        sentence("the greatest sum of scores of signs that stand opposite to one another");
        TextAligner x = of("a".repeat(150), "b".repeat(300));
        x.gaps(1000, 1000);
        x.score(1, 2, -1000);
        due("the lowest of all", -150 * 1000 - 1000 - 150 * 1000, () -> x.fit(0));
        x.score(1, 2, 1000);
        due("the greatest that must have a gap", 150 * 1000 - 1000 - 150 * 1000, () -> x.fit(0));
        x.gaps(0, 0);
        due("the greatest of all", 150 * 1000, () -> x.fit(0));
        x.score(1, 2, -1);
        due("gaps alone, where they cost nothing", 0, () -> x.fit(0));
    }

    private static void termTwoGaps() {
        sentence("a gap in the one row and one in the other, one behind the other, are two");
        TextAligner x = of("a", "b");
        x.score(1, 2, -1000);
        due("one sign each", -6, () -> x.fit(0));
        x.gaps(100, 0);
        due("two openings", -200, () -> x.fit(0));
        TextAligner inside = of("cac", "cbc");
        inside.score(1, 2, -1000);
        due("inside", 2 - 6, () -> inside.fit(0));
        TextAligner more = of("aa", "bbb");
        more.score(1, 2, -1000);
        due("some signs each", -2 - 2 - 2 - 3, () -> more.fit(0));
        inside.score(3, 3, 10);
        due("inside parts", 20 - 6, () -> inside.fit(1));
    }

    private static void termExceptionsInOrder() {
        sentence("EXCEPTIONS: NoSuchElementException: [..] IllegalArgumentException, then");
        String full = following(1, MOST_IN_PATTERN);
        TextAligner fed = of(full, "");
        dueThrows("a row ahead of too many", NO_SUCH, () -> fed.feed(2, 1, 1, 1, 1));
        TextAligner searched = searchedFor("ab", "ab", 0, 0);
        dueThrows("a thing found ahead of what", NO_SUCH, () -> searched.found(1, 4));
        dueThrows("none found ahead of what", NO_SUCH, () -> new TextAligner().found(0, 4));
        dueThrows("the one kind ahead of v", NO_SUCH, () -> searched.score(8, 0, 1001));
        dueThrows("the other kind ahead of v", NO_SUCH, () -> searched.score(0, -1, -1001));
    }

    private static void promise1NewObject() {
        sentence("1: Empty rows; nothing was found.");
        TextAligner x = new TextAligner();
        for (int what = 0; what <= 4; what++) {
            int asked = what;
            due("count " + what, 0, () -> x.count(asked));
        }
        due("least", TextAligner.NONE, x::least);
        dueThrows("found", NO_SUCH, () -> x.found(0, 0));
        dueThrows("step", NO_SUCH, () -> x.step(0, 0));
        due("whole rows fit", 0, () -> x.fit(0));
        due("parts fit", 0, () -> x.fit(1));
        due("the pattern had", 0, () -> x.clear(0));
        due("the text had", 0, () -> x.clear(1));
        for (int mode = 0; mode <= 2; mode++) {
            TextAligner empty = searchedFor("", "", mode, 0);
            dueFound("found in nothing, mode " + mode, empty, 0, 0, 0, 0);
            due("without a step, mode " + mode, 0, () -> empty.found(0, 3));
        }
    }

    private static void promise2LowestBitsFirst() {
        sentence("2: of a, then of b, and so on, the lowest eight bits first");
        TextAligner x = new TextAligner();
        due("sixteen at once", 16,
                () -> x.feed(0, 0x04030201, 0x08070605, 0x0c0b0a09, 0x100f0e0d));
        for (int sign = 1; sign <= 16; sign++) {
            x.feed(1, sign, 0, 0, 0);
        }
        due("as one by one", 1, () -> x.search(0, 0));
        TextAligner high = new TextAligner();
        due("the highest bits of all words", 16, () -> high.feed(0, -1, -1, -1, -1));
        duePattern("they are 255 each", high, "\u00ff".repeat(16));
        TextAligner top = new TextAligner();
        due("the highest bit alone", 1, () -> top.feed(0, Integer.MIN_VALUE, 0, 0, 0));
        duePattern("it is 128", top, "\u0080");
        TextAligner almost = new TextAligner();
        due("all bits but the highest", 4, () -> almost.feed(0, Integer.MAX_VALUE, 0, 0, 0));
        duePattern("it ends with 127", almost, "\u00ff\u00ff\u00ff\u007f");
    }

    private static void promise2NoneIsZero() {
        sentence("2: 0 is none");
        TextAligner x = new TextAligner();
        due("nothing at all", 0, () -> x.feed(0, 0, 0, 0, 0));
        due("nothing between signs", 5,
                () -> x.feed(0, 0x02000100, 0, 0x00030000, 0x04000005));
        duePattern("their order", x, "\u0001\u0002\u0003\u0005\u0004");
        TextAligner full = of(following(1, 150), following(1, 300));
        due("nothing behind a full pattern", 150, () -> full.feed(0, 0, 0, 0, 0));
        due("nothing behind a full text", 300, () -> full.feed(1, 0, 0, 0, 0));
        TextAligner last = of(following(1, 149), "");
        due("the last sign with fifteen times none", 150, () -> last.feed(0, 0, 0, 0, 0x96000000));
        duePattern("it came behind the others", last, following(1, 150));
    }

    private static void promise2HowManyThereAre() {
        sentence("2: how many there are");
        TextAligner x = of("abc", "");
        due("of the pattern, with those before", 5, () -> x.feed(0, 0x0201, 0, 0, 0));
        due("of the text", 1, () -> x.feed(1, 0, 0, 0, 1));
        due("of the pattern, unchanged by the text", 5, () -> x.feed(0, 0, 0, 0, 0));
    }

    private static void promise2NoSuchRow() {
        sentence("2: NoSuchElementException: row.");
        for (int row : outside(0, 1)) {
            dueRefused("row " + row, NO_SUCH, BoundaryTests::someState,
                    x -> x.feed(row, 1, 2, 3, 4));
            dueRefused("row " + row + ", no sign", NO_SUCH, BoundaryTests::someState,
                    x -> x.feed(row, 0, 0, 0, 0));
        }
    }

    /** Short rows, other scores and costs, and things found, and seen, in rows that are no more. */
    private static void someState(TextAligner x) {
        feed(x, 0, "abc");
        feed(x, 1, "xabx");
        x.score(1, 1, 7);
        x.score(2, 3, -4);
        x.gaps(3, 4);
        x.search(2, 2);
        x.step(1, 0);
        feed(x, 0, "d");
        x.clear(1);
        feed(x, 1, "dcba");
    }

    private static void promise2TooMany() {
        sentence("2: IllegalStateException: there would be too many.");
        tooMany(0, MOST_IN_PATTERN);
        tooMany(1, MOST_IN_TEXT);
    }

    private static void tooMany(int row, int most) {
        dueTooMany("the last of a", row, most, x -> x.feed(row, 0x01000000, 0, 0, 0));
        dueTooMany("the last of d", row, most, x -> x.feed(row, 0, 0, 0, 0x01000000));
        dueTooMany("sixteen behind a full row", row, most, x -> x.feed(row, -1, -1, -1, -1));
        dueTooMany("two where one has room", row, most - 1, x -> x.feed(row, 0x0101, 0, 0, 0));
        int two = 0x00010001;
        dueTooMany("two of a and of b", row, most - 3, x -> x.feed(row, two, two, 0, 0));
        dueTooMany("two of b and of c", row, most - 3, x -> x.feed(row, 0, two, two, 0));
        dueTooMany("two of c and of d", row, most - 3, x -> x.feed(row, 0, 0, two, two));
        dueTooMany("the sixteenth", row, most - 15, x -> x.feed(row, -1, -1, -1, -1));
        TextAligner x = new TextAligner();
        feed(x, row, following(1, most - 16));
        due("sixteen where they have room", most, () -> x.feed(row, -1, -1, -1, -1));
        TextAligner again = new TextAligner();
        feed(again, row, following(1, most - 1));
        dueThrows("refused", STATE, () -> again.feed(row, 1, 1, 0, 0));
        due("what was refused takes no room", most, () -> again.feed(row, 1, 0, 0, 0));
    }

    /** Full rows are too long for dueRefused: here the row's own signs and one finding are seen. */
    private static void dueTooMany(String what, int row, int signs, Call call) {
        String held = following(7, signs);
        TextAligner x = searchedFor("ab", "xab", 2, 0);
        x.clear(row);
        feed(x, row, held);
        String where = what + ", row " + row;
        dueThrows(where, STATE, () -> call.on(x));
        due(where + ", the other row", row == 0 ? 3 : 2, () -> x.count(1 - row));
        due(where + ", what was found", "1 least 0; 3 0 1 00", foundOf(x));
        if (row == 0) {
            duePattern(where, x, held);
        } else {
            dueText(where, x, held);
        }
    }

    private static void promise3RowIsEmpty() {
        sentence("3: A row is empty");
        TextAligner x = of("abc", "abcde");
        x.clear(0);
        due("the pattern", 0, () -> x.count(0));
        due("the text is not", 5, () -> x.count(1));
        feed(x, 0, "abcde");
        due("what comes then is all there is", 1, () -> x.search(0, 0));
        x.clear(1);
        due("the text", 0, () -> x.count(1));
        due("the pattern is not", 5, () -> x.count(0));
        feed(x, 1, "abcde");
        due("again all there is", 1, () -> x.search(0, 0));
        TextAligner full = of(following(1, 150), following(1, 300));
        full.clear(0);
        full.clear(1);
        feed(full, 0, following(9, 150));
        due("room for a full pattern", 150, () -> full.count(0));
        feed(full, 1, following(9, 300));
        due("room for a full text", 300, () -> full.count(1));
        due("of the new signs", 1, () -> full.search(2, 0));
        dueFound("of the new signs", full, 0, 150, 0, 0);
    }

    private static void promise3HowManyItHad() {
        sentence("3: how many signs it had");
        TextAligner x = of(following(1, 150), following(1, 300));
        due("a full pattern", 150, () -> x.clear(0));
        due("an empty pattern", 0, () -> x.clear(0));
        due("a full text", 300, () -> x.clear(1));
        due("an empty text", 0, () -> x.clear(1));
        feed(x, 0, "a");
        due("one sign", 1, () -> x.clear(0));
    }

    private static void promise3NoSuchRow() {
        sentence("3: NoSuchElementException.");
        for (int row : outside(0, 1)) {
            dueRefused("row " + row, NO_SUCH, BoundaryTests::someState, x -> x.clear(row));
        }
    }

    private static void promise4HowManyItFound() {
        sentence("4: Searches: how many it found.");
        due("nothing", 0, () -> of("a", "b").search(0, 0));
        due("one", 1, () -> of("a", "a").search(0, 0));
        due("no more than the text has places", 301, () -> of("a", "a".repeat(300)).search(2, 450));
        due("all beginnings", 301, () -> of("", "a".repeat(300)).search(1, 300));
        TextAligner x = of("a", "aaa");
        due("some", 3, () -> x.search(2, 0));
        due("not those of the search before", 3, () -> x.search(2, 0));
    }

    private static void promise4WhatWasFoundStays() {
        sentence("4: (What was found stays, with the rows as they were, till the next search.)");
        String found = foundOf(searchedFor("abc", "xabcx", 2, 1));
        dueStays("more signs in both rows", found, x -> {
            feed(x, 0, "qq");
            feed(x, 1, "abcabc");
        });
        dueStays("empty rows", found, x -> {
            x.clear(0);
            x.clear(1);
        });
        dueStays("other rows", found, x -> {
            x.clear(0);
            x.clear(1);
            feed(x, 0, "zzzzzzz");
            feed(x, 1, "yyyyyyy");
        });
        dueStays("full rows", found, x -> {
            feed(x, 0, following(1, 147));
            feed(x, 1, following(1, 295));
        });
        dueStays("a row too many", found, x -> dueThrows("it", NO_SUCH, () -> x.clear(2)));
        dueStays("a search that is refused", found,
                x -> dueThrows("it", ARGUMENT, () -> x.search(0, 451)));
        dueStays("fits, scores and gaps", found, x -> {
            x.score(1, 1, -9);
            x.gaps(0, 0);
            x.fit(0);
            x.fit(1);
            x.count(3);
        });
        TextAligner x = searchedFor("abc", "xabcx", 2, 1);
        due("a step of it", 2, () -> x.step(0, 2));
        x.clear(0);
        x.clear(1);
        feed(x, 0, "ab");
        feed(x, 1, "abbb");
        x.search(0, 450);
        due("the next search", "1 least 2; 4 2 0 0033", foundOf(x));
        x.search(0, 1);
        due("a search that finds nothing", "0 least -1", foundOf(x));
    }

    private static void dueStays(String what, String found, Consumer<TextAligner> change) {
        TextAligner x = searchedFor("abc", "xabcx", 2, 1);
        change.accept(x);
        due(what + " ahead of the first look", found, foundOf(x));
        TextAligner seen = searchedFor("abc", "xabcx", 2, 1);
        foundOf(seen);
        change.accept(seen);
        due(what + " between two looks", found, foundOf(seen));
    }

    private static void promise4NoSuchMode() {
        sentence("4: IllegalArgumentException: mode is not 0 .. 2");
        for (int mode : outside(0, 2)) {
            dueRefused("mode " + mode, ARGUMENT, BoundaryTests::someState, x -> x.search(mode, 0));
            dueRefused("mode " + mode + ", and bound", ARGUMENT, BoundaryTests::someState,
                    x -> x.search(mode, -1));
        }
    }

    private static void promise4NoSuchBound() {
        sentence("4: IllegalArgumentException: [..] or bound not 0 .. 450");
        for (int mode = 0; mode <= 2; mode++) {
            int asked = mode;
            for (int bound : outside(0, 450)) {
                dueRefused("bound " + bound + ", mode " + mode, ARGUMENT, BoundaryTests::someState,
                        x -> x.search(asked, bound));
            }
            due("bound 0, mode " + mode, 1, () -> of("a", "a").search(asked, 0));
            due("bound 450, mode " + mode, 1, () -> of("a", "").search(asked, 450));
        }
    }

    private static void promise5NoSuchThing() {
        sentence("5: NoSuchElementException");
        TextAligner x = searchedFor("a", "aaa", 2, 0);
        dueFound("the first", x, 0, 1, 0, 0);
        dueFound("the last", x, 2, 3, 0, 2);
        for (int what = 0; what <= 3; what++) {
            int asked = what;
            for (int i : outside(0, 2)) {
                dueRefused("found(" + i + ", " + what + ")", NO_SUCH, BoundaryTests::someState,
                        x2 -> x2.found(i, asked));
            }
            dueThrows("of a new object", NO_SUCH, () -> new TextAligner().found(0, asked));
            dueThrows("where nothing was found", NO_SUCH,
                    () -> searchedFor("a", "b", 0, 0).found(0, asked));
        }
        TextAligner fewer = searchedFor("a", "aaa", 2, 0);
        fewer.search(0, 2);
        dueThrows("of the search before", NO_SUCH, () -> fewer.found(1, 0));
        TextAligner full = searchedFor("a", "a".repeat(300), 2, 450);
        dueFound("the last of all places", full, 300, 300, 0, 299);
        dueThrows("behind it", NO_SUCH, () -> full.found(301, 0));
    }

    private static void promise5NoneOfThese() {
        sentence("5: IllegalArgumentException: none of these.");
        for (int what : outside(0, 3)) {
            dueRefused("what " + what, ARGUMENT, BoundaryTests::someState, x -> x.found(2, what));
        }
    }

    private static void promise6NoSuchThing() {
        sentence("6: Step j of the script of the i-th that was found. NoSuchElementException.");
        for (int i : outside(0, 2)) {
            dueRefused("step(" + i + ", 0)", NO_SUCH, BoundaryTests::someState, x -> x.step(i, 0));
            dueThrows("step(" + i + ", 0), none seen before", NO_SUCH,
                    () -> searchedFor("abc", "xabx", 2, 2).step(i, 0));
        }
        dueThrows("of a new object", NO_SUCH, () -> new TextAligner().step(0, 0));
        dueThrows("where nothing was found", NO_SUCH,
                () -> searchedFor("a", "b", 0, 0).step(0, 0));
    }

    private static void promise6NoSuchStep() {
        sentence("6: NoSuchElementException: there is no such [..] step");
        TextAligner x = searchedFor("abc", "xabx", 2, 2);
        for (int i = 0; i < x.count(2); i++) {
            int asked = i;
            int steps = x.found(i, 3);
            due("the last of " + i, scriptOf(x, i).charAt(steps - 1) - '0',
                    () -> x.step(asked, steps - 1));
            for (int j : outside(0, steps - 1)) {
                dueRefused("step(" + i + ", " + j + ")", NO_SUCH, BoundaryTests::someState,
                        x2 -> x2.step(asked, j));
            }
        }
        dueThrows("of an empty script", NO_SUCH, () -> searchedFor("", "ab", 2, 0).step(0, 0));
        TextAligner first = searchedFor("ab", "abxx", 1, 450);
        dueThrows("that another one has", NO_SUCH, () -> first.step(0, 3));
        due("which is here", 3, () -> first.step(4, 3));
        dueThrows("and still not there", NO_SUCH, () -> first.step(0, 3));
    }

    private static void promise7NoneIfNothingWas() {
        sentence("7: NONE if nothing was");
        due("NONE", -1, () -> TextAligner.NONE);
        due("a new object", -1, new TextAligner()::least);
        due("rows without a search", -1, of("a", "a")::least);
        due("one above the bound", -1, searchedFor("abc", "abx", 0, 0)::least);
        TextAligner x = searchedFor("a", "a", 0, 0);
        x.clear(0);
        x.search(0, 0);
        due("found before, but not now", -1, x::least);
    }

    private static void promise7LeastOfAll() {
        sentence("7: The least distance of all that were found");
        due("0", 0, searchedFor("", "", 0, 450)::least);
        due("the first one's", 0, searchedFor("", "abc", 1, 450)::least);
        due("the last one's", 0, searchedFor("abc", "abc", 1, 450)::least);
        due("one's between", 1, searchedFor("annual", "annealing", 2, 450)::least);
        due("at the bound", 300, searchedFor("", "a".repeat(300), 0, 450)::least);
        due("a full pattern's", 150, searchedFor("a".repeat(150), "b".repeat(300), 2, 450)::least);
    }

    private static void promise8BothWays() {
        sentence("8: The score of two kinds (both ways): what it was.");
        for (int one = 0; one < 8; one++) {
            for (int other = 0; other < 8; other++) {
                dueScored(one, other);
            }
        }
        TextAligner x = new TextAligner();
        due("kinds 0 and 7", -1, () -> x.score(0, 7, -1000));
        due("the least score", -1000, () -> x.score(7, 0, 1000));
        due("the greatest score", 1000, () -> x.score(0, 7, 0));
        due("0", 0, () -> x.score(0, 7, 0));
    }

    private static void dueScored(int one, int other) {
        TextAligner x = new TextAligner();
        x.score(one, other, 500);
        due("back, " + one + " " + other, 500, () -> x.score(other, one, 500));
        int scored = 0;
        for (int a = 0; a < 8; a++) {
            for (int b = a; b < 8; b++) {
                scored += x.score(a, b, 0) == 500 ? 1 : 0;
            }
        }
        due("no other kinds than " + one + " " + other, "1", scored + "");
        TextAligner fits = of("" + (char) (8 + one), "" + (char) (16 + other));
        fits.score(one, other, 500);
        due("in a fit, " + one + " " + other, 500, () -> fits.fit(0));
        TextAligner back = of("" + (char) (8 + other), "" + (char) (16 + one));
        back.score(one, other, 500);
        due("in a fit the other way, " + one + " " + other, 500, () -> back.fit(0));
    }

    private static void promise8NoSuchKind() {
        sentence("8: NoSuchElementException: a kind is not 0 .. 7.");
        for (int kind : outside(0, 7)) {
            dueRefused("the one, " + kind, NO_SUCH, BoundaryTests::someState,
                    x -> x.score(kind, 7, 5));
            dueRefused("the other, " + kind, NO_SUCH, BoundaryTests::someState,
                    x -> x.score(0, kind, 5));
            dueRefused("both, " + kind, NO_SUCH, BoundaryTests::someState,
                    x -> x.score(kind, kind, 5));
        }
    }

    private static void promise8NoSuchScore() {
        sentence("8: IllegalArgumentException: v is not -1000 .. 1000.");
        for (int v : outside(-1000, 1000)) {
            dueRefused("v " + v, ARGUMENT, BoundaryTests::someState, x -> x.score(2, 3, v));
            dueRefused("v " + v + " back", ARGUMENT, BoundaryTests::someState,
                    x -> x.score(3, 2, v));
        }
    }

    private static void promise9Costs() {
        sentence("9: What gaps cost.");
        TextAligner x = of("", "abcd");
        x.gaps(0, 0);
        due("nothing", 0, () -> x.fit(0));
        x.gaps(1000, 0);
        due("the greatest opening", -1000, () -> x.fit(0));
        x.gaps(0, 1000);
        due("the greatest extension", -4000, () -> x.fit(0));
        x.gaps(1000, 1000);
        due("the greatest of both", -5000, () -> x.fit(0));
        x.clear(1);
        feed(x, 0, "ab");
        due("for later rows, too", -3000, () -> x.fit(0));
    }

    private static void promise9NoSuchCost() {
        sentence("9: IllegalArgumentException: opening or extension is not 0 .. 1000.");
        for (int cost : outside(0, 1000)) {
            dueRefused("opening " + cost, ARGUMENT, BoundaryTests::someState,
                    x -> gaps(x, cost, 1000));
            dueRefused("extension " + cost, ARGUMENT, BoundaryTests::someState,
                    x -> gaps(x, 1000, cost));
            dueRefused("both " + cost, ARGUMENT, BoundaryTests::someState,
                    x -> gaps(x, cost, cost));
        }
    }

    private static int gaps(TextAligner x, int opening, int extension) {
        x.gaps(opening, extension);
        return 0;
    }

    private static void promise10WholeRows() {
        sentence("10: How well the rows fit (mode 0)");
        due("both empty", 0, () -> new TextAligner().fit(0));
        due("an empty pattern", -3, () -> of("", "a").fit(0));
        due("an empty text", -3, () -> of("a", "").fit(0));
        due("one sign each", 1, () -> of("a", "a").fit(0));
        due("below 0", -1, () -> of("a", "b").fit(0));
        due("full rows", 150 - 2 - 150, () -> of("a".repeat(150), "a".repeat(300)).fit(0));
        TextAligner x = searchedFor("ab", "ab", 0, 0);
        x.fit(0);
        x.fit(1);
        due("it finds nothing", "1 least 0; 2 0 0 00", foundOf(x));
    }

    private static void promise10AtLeastZero() {
        sentence("10: or the best two parts of them do (1: at least 0, for empty ones)");
        due("both empty", 0, () -> new TextAligner().fit(1));
        due("an empty pattern", 0, () -> of("", "abc").fit(1));
        due("an empty text", 0, () -> of("abc", "").fit(1));
        due("no signs that fit", 0, () -> of("aaa", "bbb").fit(1));
        due("signs that just fit", 1, () -> of("aaa", "bba").fit(1));
        TextAligner full = of("a".repeat(150), "b".repeat(300));
        due("full rows that do not fit", 0, () -> full.fit(1));
        full.score(1, 2, 1000);
        due("full rows that fit best", 150000, () -> full.fit(1));
        TextAligner zero = of("a", "a");
        zero.score(1, 1, 0);
        due("a score of 0", 0, () -> zero.fit(1));
        TextAligner gap = of("aa", "aba");
        due("a gap that costs more than it brings", 1, () -> gap.fit(1));
        gap.score(1, 1, 3);
        due("as much", 3, () -> gap.fit(1));
        gap.score(1, 1, 4);
        due("less", 5, () -> gap.fit(1));
        due("parts inside", 3, () -> of("xxabcxx", "yyyabcyy").fit(1));
    }

    private static void promise10NoSuchMode() {
        sentence("10: IllegalArgumentException: mode.");
        for (int mode : outside(0, 1)) {
            dueRefused("mode " + mode, ARGUMENT, BoundaryTests::someState, x -> x.fit(mode));
        }
    }

    private static void promise11Sizes() {
        sentence("11: 0 signs of the pattern, 1 of the text");
        TextAligner x = new TextAligner();
        due("no sign of the pattern", 0, () -> x.count(0));
        due("no sign of the text", 0, () -> x.count(1));
        feed(x, 0, following(1, 150));
        due("a full pattern", 150, () -> x.count(0));
        due("still no sign of the text", 0, () -> x.count(1));
        feed(x, 1, following(1, 300));
        due("a full text", 300, () -> x.count(1));
    }

    private static void promise11LatestSearch() {
        sentence("11: 2 how many the latest search found");
        TextAligner x = of("a", "a".repeat(300));
        due("no search", 0, () -> x.count(2));
        x.search(2, 1);
        due("all places", 301, () -> x.count(2));
        x.search(0, 0);
        due("nothing", 0, () -> x.count(2));
        x.search(0, 299);
        due("one", 1, () -> x.count(2));
        dueThrows("refused", ARGUMENT, () -> x.search(3, 0));
        due("as before", 1, () -> x.count(2));
    }

    private static void promise11LeastPlaces() {
        sentence("11: the least place in the pattern, and of these in the text");
        dueEnds("one way", of("abc", "xabc"), 3, 4);
        due("in the text alone", 4, () -> of("abc", "xabc").count(4));
        dueEnds("two places in the pattern", of("axa", "a"), 1, 1);
        dueEnds("two places in the text", of("a", "xaxa"), 1, 2);
        dueEnds("the pattern's place is asked first", of("ab", "ba"), 1, 2);
        dueEnds("full rows", of("a".repeat(150), "a".repeat(300)), 150, 150);
        dueEnds("the last places", of(following(1, 150), following(151, 150) + following(1, 150)),
                150, 300);
        TextAligner nil = of("ab", "ab");
        nil.score(2, 2, 0);
        dueEnds("not behind what adds 0", nil, 1, 1);
        TextAligner free = of("ab", "ab");
        free.gaps(0, 0);
        free.score(2, 2, -1);
        dueEnds("nor behind gaps that cost nothing", free, 1, 1);
    }

    private static void promise11ZeroBoth() {
        sentence("11: (0 both if it is 0)");
        dueEnds("both empty", new TextAligner(), 0, 0);
        dueEnds("an empty pattern", of("", "abc"), 0, 0);
        dueEnds("an empty text", of("abc", ""), 0, 0);
        dueEnds("nothing fits", of("aaa", "bbb"), 0, 0);
        TextAligner zero = of("aaa", "bbb");
        zero.score(1, 2, 0);
        dueEnds("scores of 0", zero, 0, 0);
        zero.gaps(0, 0);
        dueEnds("gaps that cost nothing", zero, 0, 0);
        TextAligner before = of("abc", "abc");
        before.fit(1);
        before.clear(1);
        before.fit(1);
        dueEnds("0 behind a better fit", before, 0, 0);
    }

    private static void promise11NoneOfThese() {
        sentence("11: IllegalArgumentException: none of these.");
        for (int what : outside(0, 4)) {
            dueRefused("what " + what, ARGUMENT, BoundaryTests::someState, x -> x.count(what));
        }
    }
}
