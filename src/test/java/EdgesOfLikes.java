/** Terms 3: who prefers what. Promises 15 to 18: prefers, glad, round, leave. */
final class EdgesOfLikes extends Edges {
    EdgesOfLikes(Check check, Doc doc) {
        super(check, doc);
    }

    @Override
    void run() {
        termsOfGlad();
        termsOfRounds();
        termsOfLeaving();
        prefers();
        glad();
        round();
        leave();
    }

    private void termsOfGlad() {
        of("Terms 3", "AN ISLE PREFERS one NAME to another one, if that comes ahead of it by its WISHES.");
        BarterIsles isles = told(names(4) + "wish 0 2 1;");
        check.yes("ahead", isles.prefers(0, 2, 1));
        check.no("behind", isles.prefers(0, 1, 2));
        check.no("neither", isles.prefers(0, 1, 1));
        of("Terms 3", "GLAD TO SWAP are two who each prefer the other one's NAME");
        is("both", 1, told(names(2) + "wish 0 1;wish 1 0;").glad(0));
        is("one only", 0, told(names(2) + "wish 0 1;").glad(0));
        is("the other one only", 0, told(names(2) + "wish 1 0;").glad(0));
        is("both, but one has what it likes more", 0, told(names(2) + "wish 0 0 1;wish 1 0;").glad(0));
        is("though they may not", 1, told(names(2) + "wish 0 1;wish 1 0;law 0;").glad(0));
        of("Terms 3", "how many couples; the first");
        BarterIsles all = told(names(8) + allWishes());
        is("28 of 8", 28, all.glad(0));
        is("the first", 1, all.glad(1));
        is("the last alone", 67, told(names(8) + "wish 6 7;wish 7 6;").glad(1));
    }

    /** Each of 8 likes all others more than its own. */
    private static String allWishes() {
        StringBuilder text = new StringBuilder();
        for (int isle = 0; isle < 8; isle++) {
            text.append("wish ").append(isle);
            for (int name = 0; name < 8; name++) {
                text.append(name == isle ? "" : " " + name);
            }
            text.append(";");
        }
        return text.toString();
    }

    private void rounds(String what, BarterIsles isles, int longest, int... due) {
        for (int isle = 0; isle < due.length; isle++) {
            is(what + ", ISLE " + isle, due[isle], isles.round(isle));
        }
        is(what + ", the longest", longest, isles.round(NONE));
    }

    private void termsOfRounds() {
        of("Terms 3", "A ROUND: from each ISLE to the one that has the NAME that it likes most of those that are left (its own, if it prefers none of these to it)");
        rounds("none prefers any", told(names(3) + "wish 0 0 1;"), 1, 0, 1, 2);
        rounds("the most liked of all", told(names(3) + "wish 0 2 1;wish 1 0;wish 2 0;"), 2, 2, 1, 0);
        // 0 likes 1 most, who keeps its own: then 2 is left for it.
        rounds("the most liked of those that are left", told(names(3) + "wish 0 1 2;wish 2 0;"), 2, 2, 1, 0);
        rounds("its own, when the rest is gone", told(names(3) + "wish 0 1 2;"), 1, 0, 1, 2);
        rounds("its own, which it wishes for ahead of what is left", told(names(3) + "wish 0 1 0 2;wish 2 0;"), 1, 0, 1, 2);
        of("Terms 3", "who comes back to itself by that has that NAME, and is gone with it");
        // 3 makes for 0, but 0 comes back to itself by 1: 3 is not of that round.
        rounds("who only comes to a round is not of it", told(names(4) + "wish 0 1;wish 1 0;wish 3 0 2;"), 2, 1, 0, 2, 3);
        rounds("two rounds at once", told(names(4) + "wish 0 3;wish 3 0;wish 1 2;wish 2 1;"), 2, 3, 2, 1, 0);
        of("Terms 3", "so again with the rest, till all are gone");
        // One by one: 7 keeps its own, so 6 does, and so on down to 0.
        String chain = "wish 0 1;wish 1 2;wish 2 3;wish 3 4;wish 4 5;wish 5 6;wish 6 7;";
        rounds("eight times", told(names(8) + chain), 1, 0, 1, 2, 3, 4, 5, 6, 7);
        of("Terms 3", "who has which NAME by that; the longest such round of ISLES (1: none changes)");
        rounds("all eight", told(names(8) + chain + "wish 7 0;"), 8, 1, 2, 3, 4, 5, 6, 7, 0);
        rounds("none changes", told(names(8)), 1, 0, 1, 2, 3, 4, 5, 6, 7);
        rounds("one", told(names(1) + "wish 0 0;"), 1, 0);
        rounds("a long one ahead of a short one", told(names(5) + "wish 0 1;wish 1 2;wish 2 0;wish 3 0 4;wish 4 0 3;"), 3, 1, 2, 0, 4, 3);
        rounds("a short one ahead of a long one", told(names(5) + "wish 0 1;wish 1 0;wish 2 0 3;wish 3 0 4;wish 4 0 2;"), 3, 1, 0, 3, 4, 2);
        BarterIsles moved = told(names(3) + "wish 0 2;wish 1 1;wish 2 0;");
        moved.swap(0, 1);
        rounds("by the NAMES that they have now", moved, 3, 2, 1, 0);
    }

    private void termsOfLeaving() {
        of("Terms 3", "WOULD LEAVE: sets of ISLES (at most 8) who, by some way to have just their own NAMES among themselves, would all prefer theirs");
        String ring = "wish 0 1;wish 1 2;wish 2 3;wish 3 4;wish 4 5;wish 5 6;wish 6 7;wish 7 0;";
        is("all 8", 255, told(names(8) + ring).leave());
        is("in any order of theirs", 7, told(names(3) + "wish 0 2;wish 2 1;wish 1 0;").leave());
        is("in any order of 5", 31, told(names(5) + "wish 0 3;wish 3 1;wish 1 4;wish 4 2;wish 2 0;").leave());
        is("their own NAMES only", NONE, told(names(3) + "wish 0 2;wish 1 0;").leave());
        is("all of them", NONE, told(names(3) + "wish 0 1;wish 1 2;").leave());
        of("Terms 3", "to what they have, or keep it, and one at least would prefer it");
        is("who all keep it don't leave", NONE, told(names(8)).leave());
        is("who has what it likes most", NONE, told(names(2) + "wish 0 1;wish 1 1 0;").leave());
        is("one alone never does", NONE, told(names(1) + "wish 0 0;").leave());
        of("Terms 3", "the smallest set (of as small the least as bits)");
        is("two rather than three", 24, told(names(5) + "wish 0 1;wish 1 2;wish 2 0;wish 3 4;wish 4 3;").leave());
        is("the least as bits, not by its first ISLE", 6, told(names(4) + "wish 1 2;wish 2 1;wish 0 3;wish 3 0;").leave());
        is("of all couples the first", 3, told(names(8) + allWishes()).leave());
        of("Terms 3", "; none.");
        is("none", NONE, told(names(2) + "wish 0 1;").leave());
        is("without ISLES", NONE, new BarterIsles().leave());
    }

    private void prefers() {
        of("Promise 15", "Whether an ISLE prefers one NAME to another one.");
        BarterIsles isles = told(names(8) + "wish 7 0;");
        check.yes("the only wish to its own", isles.prefers(7, 0, 7));
        check.yes("its own to the rest", isles.prefers(7, 7, 6));
        check.no("of the rest none", isles.prefers(7, 6, 5));
        check.no("itself to itself", isles.prefers(7, 0, 0));
        for (int wrong : new int[] {8, MAX, -1, MIN}) {
            check.noSuchTest("ISLE " + wrong, () -> isles.prefers(wrong, 0, 1));
            check.noSuchTest("NAME " + wrong, () -> isles.prefers(0, wrong, 1));
            check.noSuchTest("other NAME " + wrong, () -> isles.prefers(0, 1, wrong));
        }
        check.noSuchTest("without ISLES", () -> new BarterIsles().prefers(0, 0, 0));
    }

    private void glad() {
        of("Promise 16", "GLAD TO SWAP: how many couples (what 0), the first: 10 by the lesser ISLE and the other one (1; NONE: none).");
        BarterIsles isles = told(names(5) + "wish 4 3 2;wish 3 4;wish 2 4;");
        is("two", 2, isles.glad(0));
        is("the lesser ISLE of the first", 24, isles.glad(1));
        isles.swap(2, 4);
        is("none", 0, isles.glad(0));
        is("no first", NONE, isles.glad(1));
        is("none without ISLES", 0, new BarterIsles().glad(0));
        is("no first without ISLES", NONE, new BarterIsles().glad(1));
        of("Promise 16", "NoSuchElementException: another what.");
        for (int wrong : new int[] {2, MAX, -1, MIN}) {
            check.noSuch("what " + wrong, () -> isles.glad(wrong));
        }
    }

    private void round() {
        of("Promise 17", "A ROUND: the NAME of an ISLE by it; the longest one (isle NONE; 0 without ISLES).");
        BarterIsles isles = told(names(3) + "wish 0 2;wish 2 0;");
        int[] due = state(isles);
        rounds("0 and 2", isles, 2, 2, 1, 0);
        same("to ask changes nothing", due, state(isles));
        is("0 without ISLES", 0, new BarterIsles().round(NONE));
        isles.sea(0);
        is("0 without ISLES any more", 0, isles.round(NONE));
        of("Promise 17", "NoSuchElementException: no such ISLE but NONE.");
        check.noSuch("ISLE 0 without ISLES", () -> isles.round(0));
        BarterIsles three = told(names(3));
        for (int wrong : new int[] {3, MAX, -2, MIN}) {
            check.noSuch("ISLE " + wrong, () -> three.round(wrong));
        }
    }

    private void leave() {
        of("Promise 18", "WOULD LEAVE, as bits");
        is("the first two", 3, told(names(8) + "wish 0 1;wish 1 0;").leave());
        is("the last two", 192, told(names(8) + "wish 6 7;wish 7 6;").leave());
        of("Promise 18", "NONE: none.");
        BarterIsles isles = told(names(2) + "wish 0 1;wish 1 0;");
        is("two", 3, isles.leave());
        isles.swap(0, 1);
        is("content", NONE, isles.leave());
        // 0 would have 1 by 2 only, who would have none: what was so in another SEA counts no more.
        BarterIsles anew = told(names(3) + "wish 0 1;wish 1 2;wish 2 0;");
        is("three", 7, anew.leave());
        is("another SEA", 0, Check.tell(anew, names(3) + "wish 1 2;wish 2 0;"));
        is("none there", NONE, anew.leave());
    }
}
