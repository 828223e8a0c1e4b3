/** Terms 5: NAMES joined, within each other, worn; ISLES that lie on each other. Promises 21 to 26: joined, inside, shortest, worn, tide, lies. */
final class EdgesOfWords extends Edges {
    EdgesOfWords(Check check, Doc doc) {
        super(check, doc);
    }

    @Override
    void run() {
        termsOfJoining();
        termsOfShortest();
        termsOfWearing();
        termsOfTides();
        joined();
        inside();
        shortest();
        worn();
        tide();
        lies();
    }

    private static BarterIsles words(String... words) {
        StringBuilder text = new StringBuilder();
        for (String word : words) {
            text.append("name ").append(word).append(" 0 0;");
        }
        return told(text.toString());
    }

    private void join(String one, String other, String due) {
        spell(words(one, other), 0, 1, due);
    }

    private void spell(BarterIsles isles, int one, int other, String due) {
        is("letters of " + due, due.length(), isles.joined(one, other, NONE));
        for (int i = 0; i < due.length(); i++) {
            is("letter " + i + " of " + due, due.charAt(i) - 'a' + 1, isles.joined(one, other, i));
        }
        check.noSuch("behind " + due, () -> isles.joined(one, other, due.length()));
    }

    private void termsOfJoining() {
        of("Terms 5", "JOINED are two NAMES a, b (not one)");
        check.illegal("one", () -> words("ab", "cd").joined(1, 1, NONE));
        of("Terms 5", "the WORD of a, and of b what is behind the longest end of a that b begins with (not all of a WORD)");
        join("ab", "cd", "abcd");
        join("ab", "bc", "abc");
        join("cabab", "ababd", "cababd");
        join("abcdefghi", "bcdefghij", "abcdefghij");
        join("abcdefghi", "ijklmnopq", "abcdefghijklmnopq");
        join("abcdefghi", "jklmnopqr", "abcdefghijklmnopqr");
        join("a", "b", "ab");
        join("a", "ab", "aab");
        join("ab", "b", "abb");
        join("ab", "abab", "ababab");
        join("abab", "ab", "ababab");
        join("aaaa", "aaa", "aaaaa");
        join("aaa", "aaaa", "aaaaa");
        join("abc", "xab", "abcxab");
        of("Terms 5", "how many letters; the i-th one (1 to 26)");
        join("z", "a", "za");
        of("Terms 5", "HAS: whether a WORD is in another one.");
        BarterIsles isles = words("abcdefghi", "abc", "def", "ghi", "i", "hij", "bd", "abcdefghj");
        boolean[] due = {true, true, true, true, true, false, false, false};
        for (int name = 0; name < 8; name++) {
            is("NAME " + name, due[name] ? 1 : 0, isles.inside(name, 0) ? 1 : 0);
        }
        check.no("the longer one in the shorter one", isles.inside(0, 1));
    }

    private void order(BarterIsles isles, int set, int length, int... due) {
        is("letters of " + set, length, isles.shortest(set, NONE));
        for (int i = 0; i < due.length; i++) {
            is("the " + i + "-th of " + set, due[i], isles.shortest(set, i));
        }
        is("behind " + set, NONE, isles.shortest(set, due.length));
    }

    private void termsOfShortest() {
        of("Terms 5", "THE SHORTEST word that has all of a set (at most 5) in it");
        BarterIsles eight = told(names(8));
        order(eight, 0, 0);
        order(eight, 128, 1, 7);
        order(eight, 0xf8, 5, 3, 4, 5, 6, 7);
        check.illegal("6 of 8", () -> eight.shortest(0xfc, NONE));
        order(words("aaaaaaaaa", "bbbbbbbbb", "ccccccccc", "ddddddddd", "eeeeeeeee"), 31, 45, 0, 1, 2, 3, 4);
        of("Terms 5", "how many letters (of WORDS that have each other the longer one alone is asked");
        order(words("b", "abc", "ab", "abcd", "cd"), 31, 4, 3);
        order(words("ab", "b", "x"), 3, 2, 0);
        order(words("ab", "b", "x"), 7, 3, 0, 2);
        of("Terms 5", "else JOINED one behind the other in some order)");
        order(words("cd", "bc", "ab"), 7, 4, 2, 1, 0);
        order(words("ab", "cd"), 3, 4, 0, 1);
        of("Terms 5", "the first order (as a row of NAMES) by which it is so short, the i-th of it");
        order(words("aba", "bab"), 3, 4, 0, 1);
        // ab and ba share a letter either way round: the first row of all that are as short.
        order(words("ba", "ab", "xy"), 7, 5, 0, 1, 2);
        order(words("xy", "ba", "ab"), 7, 5, 0, 1, 2);
    }

    private void left(String word, int mouths, String due) {
        BarterIsles isles = words(word);
        is(word + " by " + mouths, due.length(), isles.worn(0, mouths, NONE));
        for (int i = 0; i < due.length(); i++) {
            is(word + " by " + mouths + ", letter " + i, due.charAt(i) - 'a' + 1, isles.worn(0, mouths, i));
        }
        check.noSuch(word + " by " + mouths + ", behind it", () -> isles.worn(0, mouths, due.length()));
    }

    private void termsOfWearing() {
        of("Terms 5", "WORN by n mouths (0 to 99)");
        left("strandbyx", 0, "strandbyx");
        left("strandbyx", 99, "a");
        check.illegal("100", () -> words("a").worn(0, 100, NONE));
        check.illegal("-1", () -> words("a").worn(0, -1, NONE));
        of("Terms 5", "each takes a letter of a WORD, but the first a, e, i, o or u in it always stays (without any of these its first letter)");
        for (String vowel : new String[] {"a", "e", "i", "o", "u"}) {
            left("b" + vowel + "c", 9, vowel);
            left(vowel, 9, vowel);
        }
        left("oe", 9, "o");
        left("byc", 9, "b");
        left("bcd", 1, "bc");
        left("b", 1, "b");
        left("zyx", 2, "z");
        of("Terms 5", "the last letter, if one is behind that");
        left("strand", 1, "stran");
        left("strand", 2, "stra");
        left("aloe", 3, "a");
        of("Terms 5", "else the first, if one is ahead");
        left("strand", 3, "tra");
        left("strand", 4, "ra");
        left("xxa", 1, "xa");
        of("Terms 5", "else none");
        left("strand", 5, "a");
        left("strand", 6, "a");
        left("a", 1, "a");
        of("Terms 5", "what is left");
        left("abcdefghi", 8, "a");
        left("bcdfghjki", 8, "i");
    }

    private void termsOfTides() {
        of("Terms 5", "LIE ON EACH OTHER two ISLES do at a TIDE (0 to 9), if they are at the same y and have a place in common");
        BarterIsles isles = told("name abc 10 5;name de 12 5;name fg 13 5;name hij 10 6;name kl 8 5;name m 9 5;");
        // 10 to 12, 12 to 13, 13 to 14, 8 to 9, 9.
        is("by one place", 0, isles.lies(0, 1));
        is("side by side", NONE, isles.lies(0, 2));
        is("another y", NONE, isles.lies(0, 3));
        is("side by side, ahead", NONE, isles.lies(0, 4));
        is("the last place of one", 0, isles.lies(4, 5));
        is("couples", 3, isles.tide(0));
        of("Terms 5", "each being shorter by TIDE at both ends");
        BarterIsles tides = told("name abcdefghi 0 0;name bcdefghij 0 0;name cde 3 0;name fghijklm 0 0;name no 4 0;name p 4 0;");
        is("9 and 9", 4, tides.lies(0, 1));
        is("9 and 3 in the middle", 1, tides.lies(0, 2));
        is("9 and 8", 3, tides.lies(0, 3));
        is("9 and 2", 0, tides.lies(0, 4));
        is("9 and 1", 0, tides.lies(0, 5));
        of("Terms 5", "couples at a TIDE; the greatest TIDE at which two do; none");
        int[] due = {15, 6, 3, 3, 1, 0, 0, 0, 0, 0};
        for (int tide = 0; tide <= 9; tide++) {
            is("TIDE " + tide, due[tide], tides.tide(tide));
        }
        is("none", NONE, isles.lies(1, 3));
    }

    private void joined() {
        of("Promise 21", "JOINED: how many letters (i NONE), the i-th one (1 to 26).");
        BarterIsles isles = words("az", "za");
        spell(isles, 0, 1, "aza");
        spell(isles, 1, 0, "zaz");
        of("Promise 21", "NoSuchElementException: also there is none.");
        for (int wrong : new int[] {3, MAX, -2, MIN}) {
            check.noSuch("letter " + wrong, () -> isles.joined(0, 1, wrong));
        }
        for (int wrong : new int[] {2, MAX, -1, MIN}) {
            check.noSuch("NAME " + wrong, () -> isles.joined(wrong, 0, NONE));
            check.noSuch("other NAME " + wrong, () -> isles.joined(0, wrong, NONE));
        }
        of("Promise 21", "IllegalArgumentException (behind that of NAMES): both are one.");
        check.illegal("both are one", () -> isles.joined(1, 1, NONE));
        check.illegal("ahead of i", () -> isles.joined(1, 1, 99));
        check.illegal("ahead of i below NONE", () -> isles.joined(0, 0, -2));
        for (int wrong : new int[] {2, MAX, -1, MIN}) {
            check.noSuch("both are " + wrong, () -> isles.joined(wrong, wrong, NONE));
        }
    }

    private void inside() {
        of("Promise 22", "HAS: whether the first one's WORD is in the second one's (also itself).");
        BarterIsles isles = words("ab", "b", "abb");
        check.yes("itself", isles.inside(0, 0));
        check.yes("b in ab", isles.inside(1, 0));
        check.no("ab in b", isles.inside(0, 1));
        check.yes("ab in abb", isles.inside(0, 2));
        for (int wrong : new int[] {3, MAX, -1, MIN}) {
            check.noSuchTest("NAME " + wrong, () -> isles.inside(wrong, 0));
            check.noSuchTest("other NAME " + wrong, () -> isles.inside(0, wrong));
            check.noSuchTest("both NAMES " + wrong, () -> isles.inside(wrong, wrong));
        }
    }

    private void shortest() {
        of("Promise 23", "THE SHORTEST: how many letters (i NONE), the i-th NAME of its order (NONE: it has not so many).");
        BarterIsles isles = words("ab", "bc", "cd", "b", "x", "y", "z");
        order(isles, 7, 4, 0, 1, 2);
        order(isles, 15, 4, 0, 1, 2);
        is("far behind", NONE, isles.shortest(7, MAX));
        is("of none the first", NONE, isles.shortest(0, 0));
        is("of none the letters", 0, isles.shortest(0, NONE));
        is("without NAMES", 0, new BarterIsles().shortest(0, NONE));
        is("without NAMES the first", NONE, new BarterIsles().shortest(0, 0));
        of("Promise 23", "NoSuchElementException: i is below NONE.");
        check.noSuch("-2", () -> isles.shortest(7, -2));
        check.noSuch("the lowest of all", () -> isles.shortest(0, MIN));
        of("Promise 23", "IllegalArgumentException (ahead): bits of NAMES that there aren't, more than 5.");
        check.illegal("a NAME too high", () -> isles.shortest(128, NONE));
        check.illegal("one of them", () -> isles.shortest(129, NONE));
        check.illegal("six", () -> isles.shortest(63, NONE));
        check.illegal("all seven", () -> isles.shortest(127, NONE));
        order(isles, 0x7c, 6, 2, 3, 4, 5, 6);
        for (int wrong : new int[] {MAX, -1, MIN, 1 << 30, MIN | 1, 1 << 8, 128, 63}) {
            check.illegal("bits " + wrong, () -> isles.shortest(wrong, NONE));
            check.illegal("bits " + wrong + ", ahead of i", () -> isles.shortest(wrong, -2));
        }
        check.illegal("without NAMES", () -> new BarterIsles().shortest(1, NONE));
        check.illegal("a ninth", () -> told(names(8)).shortest(256, NONE));
    }

    private void worn() {
        of("Promise 24", "WORN: how many letters (i NONE), the i-th one (1 to 26).");
        BarterIsles isles = words("zebra", "b");
        is("4 letters", 4, isles.worn(0, 1, NONE));
        is("z", 26, isles.worn(0, 3, 0));
        is("e", 5, isles.worn(0, 4, 0));
        of("Promise 24", "NoSuchElementException: also there is none.");
        check.noSuch("the 5th of 4", () -> isles.worn(0, 1, 4));
        check.noSuch("the second of 1", () -> isles.worn(0, 99, 1));
        for (int wrong : new int[] {MAX, -2, MIN}) {
            check.noSuch("letter " + wrong, () -> isles.worn(0, 0, wrong));
        }
        for (int wrong : new int[] {2, MAX, -1, MIN}) {
            check.noSuch("NAME " + wrong, () -> isles.worn(wrong, 0, NONE));
        }
        of("Promise 24", "IllegalArgumentException (behind that of NAMES): mouths.");
        for (int wrong : new int[] {100, MAX, -1, MIN}) {
            check.illegal("mouths " + wrong, () -> isles.worn(0, wrong, NONE));
            check.illegal("mouths " + wrong + ", ahead of i", () -> isles.worn(0, wrong, -2));
            check.noSuch("mouths " + wrong + ", behind NAMES", () -> isles.worn(2, wrong, NONE));
        }
        is("99", 1, isles.worn(0, 99, NONE));
    }

    private void tide() {
        of("Promise 25", "LIE ON EACH OTHER: how many couples at a TIDE.");
        BarterIsles isles = told(names(8));
        is("28 of 8", 28, isles.tide(0));
        is("of 1 letter none at 1", 0, isles.tide(1));
        is("none at 9", 0, isles.tide(9));
        is("without ISLES", 0, new BarterIsles().tide(0));
        is("of one", 0, told(names(1)).tide(0));
        of("Promise 25", "IllegalArgumentException: no such TIDE.");
        for (int wrong : new int[] {10, MAX, -1, MIN}) {
            check.illegal("TIDE " + wrong, () -> isles.tide(wrong));
            check.illegal("TIDE " + wrong + " without ISLES", () -> new BarterIsles().tide(wrong));
        }
    }

    private void lies() {
        of("Promise 26", "The greatest TIDE at which two do");
        BarterIsles isles = told("name abcdefghi 0 0;name bcdefghij 0 0;name c 9 0;");
        is("4 is the greatest there can be", 4, isles.lies(0, 1));
        is("whoever is asked first", 4, isles.lies(1, 0));
        of("Promise 26", "NONE: none.");
        is("none", NONE, isles.lies(0, 2));
        of("Promise 26", "IllegalArgumentException (behind NoSuchElementException): both are one.");
        check.illegal("both are one", () -> isles.lies(2, 2));
        for (int wrong : new int[] {3, MAX, -1, MIN}) {
            check.noSuch("both are " + wrong, () -> isles.lies(wrong, wrong));
            check.noSuch("one is " + wrong, () -> isles.lies(wrong, 0));
            check.noSuch("other is " + wrong, () -> isles.lies(0, wrong));
        }
    }
}
