/** Terms 2: where ISLES lie, SWAPS, debts, YEARS, ACTS. Promises 6 to 14: name, letter, has, debt, may, swap, year, forgive, undo. */
final class EdgesOfActs extends Edges {
    private static final String THREE = "name a 0 0;name bbbb 0 0;name cc 0 0;";

    EdgesOfActs(Check check, Doc doc) {
        super(check, doc);
    }

    @Override
    void run() {
        places();
        swaps();
        years();
        acts();
        name();
        letter();
        has();
        debt();
        may();
        swap();
        swapRefused();
        year();
        forgive();
        undo();
    }

    private void places() {
        of("Terms 2", "An ISLE lies at the PLACE of its NAME, from there on along x, so many places as its NAME has letters.");
        BarterIsles isles = told("name abc 5 5;name d 4 5;name e 5 5;name f 7 5;name g 8 5;name hi 3 5;name jk 4 5;name l 5 6;");
        int[] due = {0, NONE, 0, 0, NONE, NONE, 0, NONE};
        for (int isle = 1; isle < 8; isle++) {
            is("ISLE " + isle, due[isle], isles.lies(0, isle));
        }
        isles.swap(0, 7);
        is("where its NAME is now", NONE, isles.lies(0, 2));
        is("where its NAME is now", 0, isles.lies(7, 2));
        BarterIsles last = told("name abcdefghi 60 60;name jklmnopqr 60 60;name s 60 60;");
        is("also beyond 60", 4, last.lies(0, 1));
        is("and at 60", 0, last.lies(0, 2));
    }

    private void swaps() {
        of("Terms 2", "TWO MAY SWAP, if the LAW holds for both (each as 'mine'");
        check.no("for the first one only", told(THREE + "law mine<2;").may(0, 1));
        check.no("for the second one only", told(THREE + "law mine<2;").may(1, 0));
        check.no("for none", told(THREE + "law mine<1;").may(0, 1));
        check.yes("for both", told(THREE + "law mine<5;").may(0, 1));
        of("Terms 2", "without a LAW they may)");
        check.yes("without", told(THREE).may(0, 1));
        of("Terms 2", "They do: each has the other one's NAME then");
        BarterIsles isles = told(THREE);
        isles.swap(2, 0);
        is("ISLE 0", 2, isles.has(0));
        is("ISLE 1", 1, isles.has(1));
        is("ISLE 2", 0, isles.has(2));
        of("Terms 2", "who has more letters by it owes the other one so many more (what two owe each other is set off)");
        is("1 more", 1, isles.debt(0, 2));
        isles.swap(0, 1);
        is("2 more", 2, isles.debt(0, 1));
        is("others' debts stay", 1, isles.debt(0, 2));
        isles.swap(2, 0);
        is("3 more, set off by 1", 2, isles.debt(2, 0));
        isles.swap(2, 0);
        is("3 fewer", -1, isles.debt(2, 0));
        isles.swap(2, 0);
        isles.swap(0, 2);
        is("there and back", -1, isles.debt(2, 0));
        isles.swap(1, 2);
        isles.swap(1, 2);
        is("there and back is set off to 0", 0, isles.debt(1, 2));
        BarterIsles alike = told("name ab 0 0;name cd 0 0;");
        alike.swap(0, 1);
        is("as many letters: nothing", 0, alike.debt(0, 1));
        BarterIsles most = told("name a 0 0;name bcdefghij 0 0;");
        most.swap(0, 1);
        is("9 for 1", 8, most.debt(0, 1));
    }

    private void years() {
        of("Terms 2", "YEARS go by one by one (0 at first).");
        BarterIsles isles = told(THREE);
        is("at first", 0, isles.count(3));
        for (int year = 1; year <= 210; year++) {
            isles.year();
            is("the YEAR", year, isles.count(3));
        }
        is("at first again", 0, Check.tell(isles, THREE));
        is("at first again", 0, isles.count(3));
    }

    private void acts() {
        of("Terms 2", "ACTS (at most 40 are kept, the latest ones)");
        BarterIsles isles = told(THREE);
        int[][] states = new int[43][];
        for (int i = 0; i < 43; i++) {
            states[i] = state(isles);
            // No ACT is like the one three behind it for long, so that none can stand for another one.
            int one = i * i / 5 % 3;
            int other = (one + 1 + i * i / 7 % 2) % 3;
            if (i * i / 3 % 5 < 2) {
                isles.swap(one, other);
            } else if (i * i / 3 % 5 < 4) {
                isles.forgive(one, other);
            } else {
                isles.year();
            }
            is("ACTS", Math.min(40, i + 1), isles.count(4));
        }
        for (int i = 42; i >= 3; i--) {
            is("left", i - 3, isles.undo());
            // Of those ahead of the first 40 some ACTS are kept no longer.
            states[i][1] = i - 3;
            same("as it was ahead of ACT " + i, states[i], state(isles));
        }
        is("the first three are not kept", NONE, isles.undo());
        of("Terms 2", "a SWAP, a YEAR (with all FAIRS of it, in their order, of those who MAY");
        // In their order: 0 gets bbbb, then cc has it, then 1 gets it back by the third one; the other way round it were not so.
        BarterIsles fairs = told(THREE + "fair 1 0 2;fair 0 0 1;fair 0 2 0;fair 0 1 2;");
        is("FAIRS", 3, fairs.year());
        is("ISLE 0", 2, fairs.has(0));
        is("ISLE 1", 1, fairs.has(1));
        is("ISLE 2", 0, fairs.has(2));
        is("one ACT", 1, fairs.count(4));
        BarterIsles some = told(THREE + "fair 0 0 1;fair 0 0 2;fair 0 1 2;law mine<4;");
        is("those who may", 1, some.year());
        is("ISLE 1 may not", 1, some.has(1));
        BarterIsles debts = told(THREE + "fair 0 0 1;fair 0 0 1;law debt<3;");
        is("who may not behind the FAIR ahead", 1, debts.year());
        is("3 are owed", 3, debts.debt(0, 1));
        BarterIsles byYear = told(THREE + "fair 0 0 1;fair 1 0 1;law year=1;");
        is("the YEAR of a FAIR is its own", 0, byYear.year());
        is("and the next one's the next", 1, byYear.year());
        of("Terms 2", "then it is one YEAR later), a DEBT between two forgiven");
        is("the YEAR", 1, fairs.count(3));
        is("the FAIR of the next one", 1, fairs.year());
        is("all FAIRS gone by", 0, fairs.year());
        of("Terms 2", "They are UNDONE, the last one first.");
        is("undo", 2, fairs.undo());
        is("undo", 1, fairs.undo());
        is("ISLE 0", 2, fairs.has(0));
        is("undo", 0, fairs.undo());
        same("all", state(told(THREE)), state(fairs));
    }

    private void name() {
        of("Promise 6", "Of a NAME: 0 how many letters, 1 and 2 its PLACE, 3 its SORT, 4 the ISLE that has it");
        BarterIsles isles = told("name a 0 60;name bcdefghij 60 0 north;name kl 7 8 colony;");
        isles.swap(0, 2);
        int[][] due = {{1, 0, 60, 0, 2}, {9, 60, 0, 2, 1}, {2, 7, 8, 1, 0}};
        for (int name = 0; name < 3; name++) {
            for (int what = 0; what < 5; what++) {
                is("NAME " + name + " what " + what, due[name][what], isles.name(name, what));
            }
        }
        of("Promise 6", "NoSuchElementException: no such NAME (as everywhere), what.");
        for (int wrong : new int[] {3, 8, MAX, -1, MIN}) {
            check.noSuch("NAME " + wrong, () -> isles.name(wrong, 0));
        }
        for (int wrong : new int[] {5, MAX, -1, MIN}) {
            check.noSuch("what " + wrong, () -> isles.name(0, wrong));
        }
        check.noSuch("without NAMES", () -> new BarterIsles().name(0, 0));
    }

    private void letter() {
        of("Promise 7", "The i-th letter of a NAME (1 to 26).");
        BarterIsles isles = told("name a 0 0;name abcdefghi 0 0;name zyx 0 0;");
        is("a", 1, isles.letter(0, 0));
        is("the last of 9", 9, isles.letter(1, 8));
        is("z", 26, isles.letter(2, 0));
        of("Promise 7", "NoSuchElementException: also there is none.");
        check.noSuch("the second of 1", () -> isles.letter(0, 1));
        check.noSuch("the 10th of 9", () -> isles.letter(1, 9));
        check.noSuch("the 4th of 3", () -> isles.letter(2, 3));
        for (int wrong : new int[] {-1, MIN, MAX}) {
            check.noSuch("letter " + wrong, () -> isles.letter(0, wrong));
            check.noSuch("NAME " + wrong, () -> isles.letter(wrong, 0));
        }
        check.noSuch("NAME 3", () -> isles.letter(3, 0));
    }

    private void has() {
        of("Promise 8", "The NAME of an ISLE.");
        BarterIsles isles = told(names(8));
        is("the first", 0, isles.has(0));
        is("the last", 7, isles.has(7));
        isles.swap(7, 0);
        is("the first", 7, isles.has(0));
        is("the last", 0, isles.has(7));
        of("Promise 8", "NoSuchElementException: no such ISLE (as everywhere).");
        for (int wrong : new int[] {8, MAX, -1, MIN}) {
            check.noSuch("ISLE " + wrong, () -> isles.has(wrong));
        }
        check.noSuch("ISLE 3 of 3", () -> told(THREE).has(3));
        check.noSuch("without ISLES", () -> new BarterIsles().has(0));
    }

    private void debt() {
        of("Promise 9", "How much one ISLE owes another one (below 0: is owed).");
        BarterIsles isles = told(THREE);
        is("nothing at first", 0, isles.debt(0, 1));
        isles.swap(0, 1);
        is("owes", 3, isles.debt(0, 1));
        is("is owed", -3, isles.debt(1, 0));
        is("another one", 0, isles.debt(0, 2));
        of("Promise 9", "IllegalArgumentException (behind NoSuchElementException): both are one.");
        check.illegal("both are one", () -> isles.debt(2, 2));
        for (int wrong : new int[] {3, MAX, -1, MIN}) {
            check.noSuch("both are " + wrong, () -> isles.debt(wrong, wrong));
            check.noSuch("one is " + wrong, () -> isles.debt(wrong, 0));
            check.noSuch("other is " + wrong, () -> isles.debt(0, wrong));
        }
    }

    private void may() {
        of("Promise 10", "Whether two MAY SWAP.");
        BarterIsles isles = told(THREE + "law debt<4 and mine+yours<6;");
        check.yes("they may", isles.may(0, 1));
        check.no("they may not", isles.may(1, 2));
        isles.swap(0, 1);
        check.yes("3 is below 4", isles.may(1, 0));
        is("to ask is no ACT", 1, isles.count(4));
        is("nor a refused one", 0, isles.count(8));
        of("Promise 10", "Likewise.");
        check.illegalTest("both are one", () -> isles.may(0, 0));
        for (int wrong : new int[] {3, MAX, -1, MIN}) {
            check.noSuchTest("both are " + wrong, () -> isles.may(wrong, wrong));
            check.noSuchTest("one is " + wrong, () -> isles.may(wrong, 0));
            check.noSuchTest("other is " + wrong, () -> isles.may(0, wrong));
        }
    }

    private void swap() {
        of("Promise 11", "An ACT: a SWAP: how many letters more the first one's NAME has then (below 0: fewer).");
        BarterIsles isles = told("name a 0 0;name bcdefghij 0 0;name k 0 0;");
        is("8 more", 8, isles.swap(0, 1));
        is("8 fewer", -8, isles.swap(0, 1));
        is("8 fewer for the longer one", -8, isles.swap(1, 0));
        is("as many", 0, isles.swap(1, 2));
        is("ACTS", 4, isles.count(4));
        is("none refused", 0, isles.count(8));
        check.noSuch("no such ISLE", () -> isles.swap(3, 0));
        check.noSuch("no such other ISLE", () -> isles.swap(0, -1));
        check.noSuch("without ISLES", () -> new BarterIsles().swap(0, 0));
    }

    private void swapRefused() {
        of("Promise 11", "-99 (STATUS 1): they may not, both are one.");
        BarterIsles isles = told(THREE + "law mine<4 and yours<9;");
        int[] due = state(isles);
        is("they may not", -99, isles.swap(0, 1));
        is("STATUS", 1, isles.count(8));
        is("nor the other way round", -99, isles.swap(1, 0));
        is("both are one", -99, isles.swap(2, 2));
        is("both are one that may not", -99, isles.swap(1, 1));
        is("STATUS", 4, isles.count(8));
        same("nothing changes, no ACT", due, state(isles));
        for (int wrong : new int[] {3, MAX, -1, MIN}) {
            check.noSuch("both are " + wrong, () -> isles.swap(wrong, wrong));
        }
        is("to throw is not to refuse", 4, isles.count(8));
        is("other STATUS stay", 0, isles.count(7) + isles.count(9));
    }

    private void year() {
        of("Promise 12", "An ACT: a YEAR: how many FAIRS there were.");
        BarterIsles isles = told(names(2) + "fair 0 0 1;".repeat(5) + "fair 1 0 1;" + "fair 2 0 1;".repeat(6) + "law year<2;");
        is("5", 5, isles.year());
        is("1", 1, isles.year());
        is("of 6 none may", 0, isles.year());
        is("none", 0, isles.year());
        is("ACTS", 4, isles.count(4));
        is("FAIRS of those who may not are no refused ACTS", 0, isles.count(8));
        is("swapped six times", 0, isles.has(0));
        BarterIsles none = new BarterIsles();
        is("without ISLES", 0, none.year());
        is("is an ACT too", 1, none.count(4));
        is("and a YEAR", 1, none.count(3));
        is("which is undone", 0, none.undo());
        is("and 0 again", 0, none.count(3));
    }

    private void forgive() {
        of("Promise 13", "An ACT: what one owes the other, or the other way round, is forgiven (also if it is 0)");
        BarterIsles isles = told(THREE);
        isles.swap(0, 1);
        isles.swap(1, 2);
        isles.forgive(0, 1);
        is("forgiven", 0, isles.debt(0, 1));
        is("both ways", 0, isles.debt(1, 0));
        is("another debt stays", 1, isles.debt(1, 2));
        isles.forgive(2, 1);
        is("the other way round", 0, isles.debt(1, 2));
        is("ACTS", 4, isles.count(4));
        isles.forgive(0, 1);
        is("also of 0", 5, isles.count(4));
        is("NAMES stay", 1, isles.has(0));
        of("Promise 13", "how much it was (the first one's, as in debt())");
        is("0", 0, isles.forgive(1, 0));
        isles.undo();
        isles.undo();
        isles.undo();
        is("1 owed 2", -1, isles.forgive(2, 1));
        isles.undo();
        is("seen from 1", 1, isles.forgive(1, 2));
        of("Promise 13", "IllegalArgumentException (behind NoSuchElementException): both are one.");
        int[] due = state(isles);
        check.illegal("both are one", () -> isles.forgive(2, 2));
        for (int wrong : new int[] {3, MAX, -1, MIN}) {
            check.noSuch("both are " + wrong, () -> isles.forgive(wrong, wrong));
            check.noSuch("one is " + wrong, () -> isles.forgive(wrong, 0));
            check.noSuch("other is " + wrong, () -> isles.forgive(0, wrong));
        }
        same("nothing changes, no ACT", due, state(isles));
        is("nor is one refused", 0, isles.count(8));
    }

    private void undo() {
        of("Promise 14", "The last ACT is UNDONE: how many are left.");
        BarterIsles isles = told(THREE + "fair 1 0 1;fair 1 1 2;law 1;");
        int[][] states = new int[6][];
        states[0] = state(isles);
        isles.swap(0, 1);
        states[1] = state(isles);
        isles.year();
        states[2] = state(isles);
        isles.year();
        states[3] = state(isles);
        isles.forgive(1, 2);
        states[4] = state(isles);
        isles.swap(2, 0);
        isles.swap(1, 1);
        for (int left = 4; left >= 0; left--) {
            is("left", left, isles.undo());
            same("as it was", states[left], state(isles));
        }
        BarterIsles full = told(THREE);
        for (int i = 0; i < 40; i++) {
            full.year();
        }
        is("of 40", 39, full.undo());
        full.year();
        full.year();
        is("of 41", 39, full.undo());
        BarterIsles unlawful = told(THREE + "law debt=0;");
        unlawful.swap(0, 1);
        check.no("who may not swap back", unlawful.may(0, 1));
        is("is swapped back all the same", 0, unlawful.undo());
        is("with its debt", 0, unlawful.debt(0, 1));
        of("Promise 14", "NONE: there is none.");
        is("none is left", NONE, isles.undo());
        is("nor a second time", NONE, isles.undo());
        same("nothing changes", states[0], state(isles));
        is("nor is one refused but the SWAP", 1, isles.count(8));
        is("a new object", NONE, new BarterIsles().undo());
    }
}
