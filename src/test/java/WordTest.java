/** Promises 6 to 8 and 21 to 24: names, letters, who has them; joined, inside, shortest, worn. */
public final class WordTest {
    private static final Check CHECK = new Check("WordTest");

    public static void main(String[] args) {
        names();
        joined();
        inside();
        shortest();
        worn();
        CHECK.end();
    }

    private static void names() {
        BarterIsles isles = Check.told("name zebra 3 60 north;name ay 60 0 colony;name b 7 8;");
        int[][] due = {{5, 3, 60, 2, 0}, {2, 60, 0, 1, 1}, {1, 7, 8, 0, 2}};
        for (int name = 0; name < 3; name++) {
            for (int what = 0; what < 5; what++) {
                CHECK.is("name " + name + " " + what, due[name][what], isles.name(name, what));
            }
        }
        isles.swap(0, 2);
        CHECK.is("who has it now", 2, isles.name(0, 4));
        CHECK.is("the place stays the name's", 3, isles.name(0, 1));
        CHECK.is("has", 2, isles.has(0));
        CHECK.is("has", 1, isles.has(1));
        CHECK.is("has", 0, isles.has(2));
        CHECK.noSuch("name 3", () -> isles.name(3, 0));
        CHECK.noSuch("name -1", () -> isles.name(-1, 0));
        CHECK.noSuch("name what 5", () -> isles.name(0, 5));
        CHECK.noSuch("name what -1", () -> isles.name(0, -1));
        CHECK.noSuch("has 3", () -> isles.has(3));
        CHECK.noSuch("has -1", () -> isles.has(-1));
        CHECK.is("z", 26, isles.letter(0, 0));
        CHECK.is("a", 1, isles.letter(0, 4));
        CHECK.is("y", 25, isles.letter(1, 1));
        CHECK.noSuch("letter 2 of ay", () -> isles.letter(1, 2));
        CHECK.noSuch("letter -1", () -> isles.letter(1, -1));
        CHECK.noSuch("letter of 3", () -> isles.letter(3, 0));
    }

    private static void word(BarterIsles isles, int one, int other, String due) {
        CHECK.is("joined " + due, due.length(), isles.joined(one, other, -1));
        for (int i = 0; i < due.length(); i++) {
            CHECK.is("joined " + due + " " + i, due.charAt(i) - 'a' + 1, isles.joined(one, other, i));
        }
        CHECK.noSuch("behind " + due, () -> isles.joined(one, other, due.length()));
    }

    private static void joined() {
        BarterIsles isles = Check.told("name abab 0 0;name babc 0 0;name ab 0 0;name a 0 0;name zz 0 0;name zzz 0 0;");
        word(isles, 0, 1, "ababc");
        word(isles, 1, 0, "babcabab");
        // All of a word may not be what is shared.
        word(isles, 0, 2, "ababab");
        word(isles, 2, 0, "ababab");
        word(isles, 3, 2, "aab");
        word(isles, 2, 3, "aba");
        word(isles, 4, 5, "zzzz");
        word(isles, 5, 4, "zzzz");
        CHECK.noSuch("joined i -2", () -> isles.joined(0, 1, -2));
        CHECK.noSuch("joined 6", () -> isles.joined(6, 6, -1));
        CHECK.noSuch("joined -1", () -> isles.joined(0, -1, -1));
        CHECK.illegal("joined itself", () -> isles.joined(1, 1, -1));
        CHECK.illegal("joined itself, ahead of i", () -> isles.joined(1, 1, 99));
    }

    private static void inside() {
        BarterIsles isles = Check.told("name abc 0 0;name bc 0 0;name ac 0 0;name c 0 0;");
        CHECK.yes("itself", isles.inside(0, 0));
        CHECK.yes("bc in abc", isles.inside(1, 0));
        CHECK.no("abc in bc", isles.inside(0, 1));
        CHECK.no("ac in abc", isles.inside(2, 0));
        CHECK.yes("c in abc", isles.inside(3, 0));
        CHECK.noSuchTest("4", () -> isles.inside(4, 0));
        CHECK.noSuchTest("-1", () -> isles.inside(0, -1));
    }

    private static void order(BarterIsles isles, int set, int length, int... due) {
        CHECK.is("shortest " + set, length, isles.shortest(set, -1));
        for (int i = 0; i < due.length; i++) {
            CHECK.is("shortest " + set + " " + i, due[i], isles.shortest(set, i));
        }
        CHECK.is("behind shortest " + set, -1, isles.shortest(set, due.length));
    }

    private static void shortest() {
        BarterIsles isles = Check.told("name tale 0 0;name eel 0 0;name last 0 0;name al 0 0;name x 0 0;name elta 0 0;");
        order(isles, 0, 0);
        order(isles, 1, 4, 0);
        // al is in tale.
        order(isles, 1 | 8, 4, 0);
        order(isles, 1 | 2, 6, 0, 1);
        // taleelast and eelastale are both as short: the first row of names.
        order(isles, 1 | 2 | 4, 9, 0, 1, 2);
        order(isles, 1 | 16, 5, 0, 4);
        order(isles, 1 | 2 | 4 | 8 | 16, 10, 0, 1, 2, 4);
        // eel + elta share el; elta + tale share ta.
        order(isles, 1 | 2 | 32, 7, 1, 5, 0);
        CHECK.is("far behind", -1, isles.shortest(1, Integer.MAX_VALUE));
        CHECK.noSuch("i -2", () -> isles.shortest(1, -2));
        CHECK.illegal("six", () -> isles.shortest(63, -1));
        CHECK.illegal("no such name", () -> isles.shortest(64, -1));
        CHECK.illegal("no such name, ahead of i", () -> isles.shortest(64, -2));
        CHECK.illegal("below 0", () -> isles.shortest(-1, -1));
        CHECK.illegal("the highest bit", () -> isles.shortest(Integer.MIN_VALUE, -1));
        BarterIsles eight = Check.told("name a 0 0;name b 0 0;name c 0 0;name d 0 0;name e 0 0;name f 0 0;name g 0 0;name h 0 0;");
        order(eight, 0xf8, 5, 3, 4, 5, 6, 7);
        CHECK.illegal("a ninth", () -> eight.shortest(256, -1));
    }

    private static void left(BarterIsles isles, int name, int mouths, String due) {
        CHECK.is("worn to " + due, due.length(), isles.worn(name, mouths, -1));
        for (int i = 0; i < due.length(); i++) {
            CHECK.is("worn to " + due + " " + i, due.charAt(i) - 'a' + 1, isles.worn(name, mouths, i));
        }
        CHECK.noSuch("behind " + due, () -> isles.worn(name, mouths, due.length()));
    }

    private static void worn() {
        BarterIsles isles = Check.told("name strand 0 0;name rhythm 0 0;name aloe 0 0;name b 0 0;name zu 0 0;");
        String[] strand = {"strand", "stran", "stra", "tra", "ra", "a", "a"};
        for (int mouths = 0; mouths < strand.length; mouths++) {
            left(isles, 0, mouths, strand[mouths]);
        }
        left(isles, 0, 99, "a");
        left(isles, 1, 4, "rh");
        left(isles, 1, 5, "r");
        left(isles, 1, 6, "r");
        left(isles, 2, 2, "al");
        left(isles, 2, 50, "a");
        left(isles, 3, 9, "b");
        left(isles, 4, 1, "u");
        BarterIsles vowels = Check.told("name beb 0 0;name bib 0 0;name bob 0 0;name bub 0 0;name byb 0 0;name bab 0 0;name hueo 0 0;");
        left(vowels, 0, 9, "e");
        left(vowels, 1, 9, "i");
        left(vowels, 2, 9, "o");
        left(vowels, 3, 9, "u");
        left(vowels, 4, 9, "b");
        left(vowels, 5, 9, "a");
        left(vowels, 6, 9, "u");
        CHECK.noSuch("i -2", () -> isles.worn(0, 0, -2));
        CHECK.noSuch("name 5", () -> isles.worn(5, 100, -1));
        CHECK.illegal("100 mouths", () -> isles.worn(0, 100, -1));
        CHECK.illegal("100 mouths, ahead of i", () -> isles.worn(0, 100, -2));
        CHECK.illegal("-1 mouths", () -> isles.worn(0, -1, -1));
    }
}
