/** Promises 31 to 37: clerks, centuries, weather, who is owed, caravans, images. */
public final class TradeTest {
    private static final Check CHECK = new Check("TradeTest");

    public static void main(String[] args) {
        clerks();
        centuries();
        weather();
        owed();
        caravans();
        images();
        CHECK.end();
    }

    private static void clerks() {
        // Worth to isle 0: 10, 20 - 5, 30 - 50; to isle 1: 10 - 5, 20, 30 - 55.
        BarterIsles isles = Check.told("name a 0 0;name bb 5 0;name ccc 0 50;");
        CHECK.is("resting", 2, isles.clerks(0, 1, 0));
        CHECK.is("the first", 1, isles.clerks(0, 1, 1));
        // To isle 2: 10 - 50, 20 - 55, 30: it takes its own, and 0 takes bb.
        CHECK.is("resting", 1, isles.clerks(0, 2, 0));
        CHECK.is("the first", 12, isles.clerks(0, 2, 1));
        CHECK.is("the other way round", 21, isles.clerks(2, 0, 1));
        isles.swap(0, 2);
        CHECK.is("isles are where their names are", 21, isles.clerks(0, 2, 1));
        // To both isles both are too far off but their own: 10 - 60 is less than to claim the same.
        BarterIsles far = Check.told("name a 0 0;name b 60 0;");
        CHECK.is("resting", 1, far.clerks(0, 1, 0));
        CHECK.is("each its own", 1, far.clerks(0, 1, 1));
        BarterIsles alike = Check.told("name a 0 0;name b 0 0;");
        CHECK.is("both ways", 2, alike.clerks(0, 1, 0));
        BarterIsles even = Check.told("name a 0 0;name b 10 0;");
        // Worth 10 and 0 each: the other one's is worth as much as to claim the same.
        CHECK.is("even", 1, even.clerks(0, 1, 1));
        CHECK.is("even, all but one", evenRest(), even.clerks(0, 1, 0));
        CHECK.noSuch("what 2, ahead", () -> isles.clerks(0, 0, 2));
        CHECK.noSuch("what -1", () -> isles.clerks(0, 1, -1));
        CHECK.noSuch("isle 3", () -> isles.clerks(3, 3, 0));
        CHECK.noSuch("isle -1", () -> isles.clerks(0, -1, 0));
        CHECK.illegal("both are one", () -> isles.clerks(1, 1, 0));
    }

    /** By hand: (0,1) 10 and 10 rests; (0,0) 0 and 0: 1 would have 10; (1,1): 0 would have 10; (1,0) 0 and 0: neither has more. */
    private static int evenRest() {
        return 2;
    }

    private static void centuries() {
        BarterIsles isles = Check.told("name a 0 0;name bb 0 0;name ccc 0 0;fair 0 0 1;law debt<4;");
        CHECK.is("no years", 0, isles.century(5, 0, -1));
        CHECK.is("no years", 2, isles.century(5, 0, 2));
        // Seed 1: draws by hand below.
        int seed = 1;
        seed = seed * 1103515245 + 12345;
        int one = (seed >> 16 & 32767) % 3;
        seed = seed * 1103515245 + 12345;
        int other = (seed >> 16 & 32767) % 3;
        CHECK.is("first draw of seed 1", 16838 % 3, one);
        CHECK.is("second draw of seed 1", 5758 % 3, other);
        // 2 and 1 swap: a ccc bb; then the fair of 0 and 1: ccc a bb.
        CHECK.is("one year: a swap", 1, isles.century(1, 1, -1));
        CHECK.is("one year: 0", 2, isles.century(1, 1, 0));
        CHECK.is("one year: 1", 0, isles.century(1, 1, 1));
        CHECK.is("one year: 2", 1, isles.century(1, 1, 2));
        CHECK.is("nothing changes by asking", 0, isles.has(0));
        CHECK.is("nor the year", 0, isles.count(3));
        CHECK.is("no act", 0, isles.count(4));
        CHECK.is("the law stops them all", 0, Check.told("name a 0 0;name b 0 0;law 0;").century(1, 100, -1));
        CHECK.is("one isle", 0, Check.told("name a 0 0;").century(1, 100, -1));
        CHECK.is("without isles", 0, new BarterIsles().century(1, 100, -1));
        CHECK.noSuch("isle, ahead", () -> isles.century(1, 101, 3));
        CHECK.noSuch("isle -2", () -> isles.century(1, 1, -2));
        CHECK.illegal("101 years", () -> isles.century(1, 101, -1));
        CHECK.illegal("-1 years", () -> isles.century(1, -1, 0));
    }

    private static void weather() {
        BarterIsles isles = Check.told("name a 0 0 north;name bb 5 5 north;name c 5 5 colony;name d 60 60;name e 60 60 north;");
        CHECK.is("none off", 1, isles.weather(0, 0, 0));
        CHECK.is("9 off", 1, isles.weather(0, 0, 9));
        CHECK.is("10 off", 2, isles.weather(0, 0, 10));
        CHECK.is("119 off", 2, isles.weather(0, 0, 119));
        CHECK.is("120 off", 3, isles.weather(0, 0, 120));
        CHECK.is("by where it begins", 1, isles.weather(6, 5, 1));
        isles.swap(0, 3);
        CHECK.is("as many, whoever has them", 1, isles.weather(0, 0, 0));
        CHECK.illegal("far 121", () -> isles.weather(0, 0, 121));
        CHECK.illegal("far -1", () -> isles.weather(0, 0, -1));
        CHECK.illegal("x 61", () -> isles.weather(61, 0, 0));
        CHECK.illegal("y -1", () -> isles.weather(0, -1, 0));
        CHECK.is("without isles", 0, new BarterIsles().weather(60, 60, 120));
    }

    private static void owed() {
        BarterIsles isles = Check.told("name a 0 0;name bbb 0 0;name ccccccc 0 0;");
        CHECK.is("none", -1, isles.owed(0));
        CHECK.is("none", 0, isles.owed(1));
        isles.swap(0, 1);
        CHECK.is("1 is owed", 1, isles.owed(0));
        CHECK.is("2", 2, isles.owed(1));
        isles.swap(1, 2);
        // 1 owes 2 six, and is owed two: what it owes isn't taken off, but 2 is owed more.
        CHECK.is("2 is owed", 2, isles.owed(0));
        CHECK.is("6", 6, isles.owed(1));
        isles.swap(2, 0);
        // 0 has bbb, 2 has a: 2 owes 0 two more.
        CHECK.is("2 is owed", 2, isles.owed(0));
        isles.forgive(1, 2);
        // 0 is owed 2 by 2, and owes 1 two; 1 is owed 2: alike.
        CHECK.is("of like ones the least", 0, isles.owed(0));
        CHECK.is("2", 2, isles.owed(1));
        CHECK.noSuch("what 2", () -> isles.owed(2));
        CHECK.noSuch("what -1", () -> isles.owed(-1));
    }

    private static void caravans() {
        BarterIsles isles = Check.told("name a 0 0;name b 0 0;name c 0 0;name d 0 0;name e 0 0;name f 0 0;name g 0 0;name h 0 0;");
        CHECK.is("at home", 1, isles.caravan(3));
        for (int isle = 1; isle < 8; isle++) {
            isles.swap(0, isle);
            CHECK.is("round", isle + 1, isles.caravan(0));
            CHECK.is("round", isle + 1, isles.caravan(isle));
        }
        isles.swap(0, 7);
        CHECK.is("home again", 1, isles.caravan(7));
        CHECK.is("without it", 7, isles.caravan(0));
        CHECK.noSuch("8", () -> isles.caravan(8));
        CHECK.noSuch("-1", () -> isles.caravan(-1));
    }

    private static void images() {
        BarterIsles isles = Check.told("name a 0 0;name bb 0 0;name ccc 0 0;fair 1 0 2;");
        CHECK.no("none", isles.restore());
        isles.swap(0, 1);
        isles.year();
        isles.see(2, 2);
        isles.image();
        isles.year();
        isles.forgive(0, 1);
        isles.forget();
        isles.see(0, 0);
        isles.see(0, 1);
        isles.swap(1, 1);
        for (int again = 0; again < 2; again++) {
            CHECK.yes("restored", isles.restore());
            CHECK.is("names", 1, isles.has(0));
            CHECK.is("names", 2, isles.has(2));
            CHECK.is("debts", 1, isles.debt(0, 1));
            CHECK.is("year", 1, isles.count(3));
            CHECK.is("acts", 2, isles.count(4));
            CHECK.is("seen", 1, isles.count(5));
            CHECK.is("STATUS stays", 1, isles.count(8));
            CHECK.is("sales by it", 1, isles.sales(0, -1));
            CHECK.is("undo", 1, isles.undo());
            CHECK.is("undo", 0, isles.undo());
            CHECK.is("as ever", 0, isles.has(0));
            isles.year();
            isles.year();
        }
        isles.image();
        isles.undo();
        CHECK.yes("in place of the other one", isles.restore());
        CHECK.is("year", 2, isles.count(3));
        CHECK.yes("an image of a new object", imageOfNew());
    }

    private static boolean imageOfNew() {
        BarterIsles isles = new BarterIsles();
        isles.year();
        isles.image();
        isles.year();
        return isles.restore() && isles.count(3) == 1 && isles.undo() == 0;
    }
}
