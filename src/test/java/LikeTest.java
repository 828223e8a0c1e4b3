/** Promises 15 to 18: prefers, glad, round, leave. */
public final class LikeTest {
    private static final Check CHECK = new Check("LikeTest");
    private static final String FIVE = "name a 0 0;name b 0 0;name c 0 0;name d 0 0;name e 0 0;";

    public static void main(String[] args) {
        prefers();
        glad();
        rounds();
        leave();
        CHECK.end();
    }

    private static void prefers() {
        BarterIsles isles = Check.told(FIVE + "wish 0 2 1;wish 1 1 3;");
        CHECK.yes("the first wish", isles.prefers(0, 2, 1));
        CHECK.no("the second one", isles.prefers(0, 1, 2));
        CHECK.yes("a wish to its own", isles.prefers(0, 1, 0));
        CHECK.yes("its own to others", isles.prefers(0, 0, 3));
        CHECK.no("others to its own", isles.prefers(0, 3, 0));
        CHECK.no("others are alike", isles.prefers(0, 3, 4));
        CHECK.no("others are alike", isles.prefers(0, 4, 3));
        CHECK.no("itself", isles.prefers(0, 2, 2));
        CHECK.yes("its own as a wish", isles.prefers(1, 1, 3));
        CHECK.no("its own as a wish", isles.prefers(1, 3, 1));
        CHECK.yes("without wishes its own", isles.prefers(4, 4, 0));
        CHECK.no("without wishes none", isles.prefers(4, 0, 1));
        isles.swap(0, 4);
        CHECK.yes("its own moves with the swap", isles.prefers(0, 4, 0));
        CHECK.noSuchTest("isle", () -> isles.prefers(5, 0, 1));
        CHECK.noSuchTest("name", () -> isles.prefers(0, 5, 1));
        CHECK.noSuchTest("other", () -> isles.prefers(0, 0, -1));
    }

    private static void glad() {
        BarterIsles isles = Check.told(FIVE + "wish 1 4 3;wish 3 1;wish 4 1 3;wish 0 1;law 0;");
        CHECK.is("couples", 2, isles.glad(0));
        CHECK.is("the first", 13, isles.glad(1));
        CHECK.noSuch("what 2", () -> isles.glad(2));
        CHECK.noSuch("what -1", () -> isles.glad(-1));
        BarterIsles ends = Check.told(FIVE + "wish 0 4;wish 4 0 3;wish 3 4;");
        CHECK.is("couples of the first and the last", 2, ends.glad(0));
        CHECK.is("the first", 4, ends.glad(1));
        ends.swap(0, 4);
        CHECK.is("content", 0, ends.glad(0));
        BarterIsles none = Check.told(FIVE + "wish 0 1;wish 1 2;wish 2 0;");
        CHECK.is("none", 0, none.glad(0));
        CHECK.is("no first", -1, none.glad(1));
    }

    private static void rounds() {
        BarterIsles isles = Check.told(FIVE + "wish 0 1;wish 1 2;wish 2 0;wish 3 0 4;wish 4 1 3;");
        int[] due = {1, 2, 0, 4, 3};
        for (int isle = 0; isle < 5; isle++) {
            CHECK.is("round " + isle, due[isle], isles.round(isle));
        }
        CHECK.is("the longest", 3, isles.round(-1));
        isles.swap(0, 1);
        // Now 0 has what it likes; 1 (has 0) likes 2, 2 likes 0.
        CHECK.is("keeps", 1, isles.round(0));
        CHECK.is("gets", 2, isles.round(1));
        CHECK.is("gets", 0, isles.round(2));
        CHECK.is("the longest", 2, isles.round(-1));
        CHECK.is("nothing changes by asking", 1, isles.has(0));
        CHECK.noSuch("5", () -> isles.round(5));
        CHECK.noSuch("-2", () -> isles.round(-2));
        BarterIsles plain = Check.told(FIVE);
        CHECK.is("without wishes", 3, plain.round(3));
        CHECK.is("none changes", 1, plain.round(-1));
        CHECK.is("without isles", 0, new BarterIsles().round(-1));
        CHECK.noSuch("without isles", () -> new BarterIsles().round(0));
    }

    private static void leave() {
        CHECK.is("without isles", -1, new BarterIsles().leave());
        CHECK.is("without wishes", -1, Check.told(FIVE).leave());
        CHECK.is("one wishes in vain", -1, Check.told(FIVE + "wish 0 1;").leave());
        CHECK.is("three", 7, Check.told(FIVE + "wish 0 1;wish 1 2;wish 2 0;").leave());
        CHECK.is("the smaller set", 24, Check.told(FIVE + "wish 0 1;wish 1 2;wish 2 0;wish 3 4;wish 4 3;").leave());
        CHECK.is("the lesser one", 17, Check.told(FIVE + "wish 0 4;wish 4 0 3;wish 3 4;").leave());
        CHECK.is("four", 30, Check.told(FIVE + "wish 1 2;wish 2 4;wish 4 3;wish 3 1;").leave());
        BarterIsles isles = Check.told(FIVE + "wish 0 1;wish 1 2;wish 2 0;");
        isles.swap(0, 1);
        CHECK.is("two now", 6, isles.leave());
        isles.swap(1, 2);
        CHECK.is("none any more", -1, isles.leave());
        String eight = "name a 0 0;name b 0 0;name c 0 0;name d 0 0;name e 0 0;name f 0 0;name g 0 0;name h 0 0;";
        CHECK.is("all eight", 255, Check.told(eight + "wish 0 3;wish 3 6;wish 6 1;wish 1 4;wish 4 7;wish 7 2;wish 2 5;wish 5 0;").leave());
    }
}
