/** Promises 19 and 20: told arrangements by the fewest swaps, ships. */
public final class RouteTest {
    private static final Check CHECK = new Check("RouteTest");

    public static void main(String[] args) {
        fewest();
        byLaw();
        oneWay();
        spent();
        ships();
        shipsAndFairs();
        CHECK.end();
    }

    private static int row(int... names) {
        int arrangement = 0;
        for (int i = 0; i < names.length; i++) {
            arrangement |= names[i] << 3 * i;
        }
        return arrangement;
    }

    private static void asked(BarterIsles isles, int arrangement, int fewest, int first, int ofItself) {
        CHECK.is("fewest to " + arrangement, fewest, isles.swaps(arrangement, 0));
        CHECK.is("first to " + arrangement, first, isles.swaps(arrangement, 1));
        CHECK.is("of itself to " + arrangement, ofItself, isles.swaps(arrangement, 2));
    }

    private static void fewest() {
        BarterIsles isles = Check.told("name a 0 0;name b 0 0;name c 0 0;name d 0 0;");
        asked(isles, row(0, 1, 2, 3), 0, -1, 0);
        asked(isles, row(1, 0, 2, 3), 1, 1, 1);
        asked(isles, row(1, 2, 0, 3), 2, 1, 2);
        asked(isles, row(0, 1, 3, 2), 1, 23, 1);
        asked(isles, row(1, 0, 3, 2), 2, 1, 2);
        asked(isles, row(0, 2, 3, 1), 2, 12, 2);
        asked(isles, row(3, 0, 1, 2), 3, 1, 3);
        isles.swap(0, 1);
        asked(isles, row(1, 0, 3, 2), 1, 23, 1);
        asked(isles, row(0, 1, 2, 3), 1, 1, 1);
        CHECK.is("nothing moves by asking", 1, isles.has(0));
        CHECK.noSuch("what 3", () -> isles.swaps(-1, 3));
        CHECK.noSuch("what -1", () -> isles.swaps(0, -1));
        CHECK.illegal("twice a name", () -> isles.swaps(row(0, 1, 2, 2), 0));
        CHECK.illegal("no such name", () -> isles.swaps(row(0, 1, 2, 4), 2));
        CHECK.illegal("a figure too many", () -> isles.swaps(row(0, 1, 2, 3, 1), 1));
        CHECK.illegal("below 0", () -> isles.swaps(-1, 0));
        CHECK.illegal("the highest bit", () -> isles.swaps(row(0, 1, 2, 3) | Integer.MIN_VALUE, 0));
        BarterIsles none = new BarterIsles();
        asked(none, 0, 0, -1, 0);
        CHECK.illegal("without isles", () -> none.swaps(1, 0));
        asked(Check.told("name a 0 0;"), 0, 0, -1, 0);
    }

    private static void byLaw() {
        // Names may be swapped that are one place apart: so 0 and 2 change by three swaps, 3 never moves.
        BarterIsles isles = Check.told("name a 0 0;name b 1 0;name c 2 0;name d 9 9;law far=1;");
        asked(isles, row(2, 1, 0, 3), 3, 1, 1);
        asked(isles, row(3, 1, 2, 0), -1, -1, 1);
        asked(isles, row(1, 0, 2, 3), 1, 1, 1);
        BarterIsles never = Check.told("name a 0 0;name b 1 0;law 0;");
        asked(never, row(0, 1), 0, -1, 0);
        asked(never, row(1, 0), -1, -1, 1);
    }

    private static void oneWay() {
        // Debts are as they are now in all swaps: none owes at first, so that rule never stops a row.
        BarterIsles isles = Check.told("name a 0 0;name bbbbb 0 0;name ccccccccc 0 0;law debt<1 and year<1;");
        asked(isles, row(2, 0, 1), 2, 1, 2);
        isles.swap(0, 1);
        // 0 owes 1 four letters: these two may not again; all goes by 2.
        asked(isles, row(0, 1, 2), 3, 2, 1);
        isles.year();
        asked(isles, row(0, 1, 2), -1, -1, 1);
        isles.undo();
        isles.undo();
        asked(isles, row(0, 1, 2), 0, -1, 0);
    }

    private static void spent() {
        String six = "name a 0 0;name b 0 0;name c 0 0;name d 0 0;name e 0 0;name f 0 0;";
        BarterIsles isles = Check.told(six);
        asked(isles, row(1, 2, 3, 4, 5, 0), 5, 1, 5);
        asked(isles, row(5, 4, 3, 2, 1, 0), 3, 5, 3);
        BarterIsles seven = Check.told(six + "name g 0 0;");
        asked(seven, row(0, 1, 2, 3, 4, 5, 6), -2, -2, 0);
        asked(seven, row(1, 2, 3, 4, 5, 6, 0), -2, -2, 6);
        CHECK.illegal("behind a wrong one", () -> seven.swaps(0, 0));
        BarterIsles eight = Check.told(six + "name g 0 0;name h 0 0;");
        asked(eight, row(1, 0, 3, 2, 5, 4, 7, 6), -2, -2, 4);
        CHECK.illegal("25 bits", () -> eight.swaps(row(1, 0, 3, 2, 5, 4, 7, 6) | 1 << 24, 2));
    }

    private static void ships() {
        BarterIsles isles = Check.told("name a 10 10;name bbb 60 60;");
        CHECK.is("there", 0, isles.ship(10, 10, 0));
        CHECK.is("one place off", 1, isles.ship(10, 9, 0));
        CHECK.is("three along both", 1, isles.ship(8, 11, 0));
        CHECK.is("four", 2, isles.ship(12, 12, 0));
        CHECK.is("where the isle begins only", 1, isles.ship(59, 60, 1));
        CHECK.is("120 places by 3", 40, isles.ship(0, 0, 1));
        CHECK.is("120 places by 1", -1, Check.told("name a 60 60;speed 1;").ship(0, 0, 0));
        CHECK.is("100 places by 1", 100, Check.told("name a 60 40;speed 1;").ship(0, 0, 0));
        CHECK.is("101 places by 1", -1, Check.told("name a 60 41;speed 1;").ship(0, 0, 0));
        CHECK.is("120 places by 9", 14, Check.told("name a 60 60;speed 9;").ship(0, 0, 0));
        CHECK.noSuch("isle, ahead of the place", () -> isles.ship(61, 0, 2));
        CHECK.noSuch("isle -1", () -> isles.ship(0, 0, -1));
        CHECK.illegal("x 61", () -> isles.ship(61, 0, 0));
        CHECK.illegal("y 61", () -> isles.ship(0, 61, 0));
        CHECK.illegal("x -1", () -> isles.ship(-1, 0, 0));
        CHECK.illegal("y -1", () -> isles.ship(0, -1, 0));
    }

    private static void shipsAndFairs() {
        String sea = "name a 0 0;name b 9 0;name c 9 9;";
        // The ship makes for where the isle is now; 1 goes off to 0 0 in year 1.
        BarterIsles isles = Check.told(sea + "fair 1 0 1;");
        CHECK.is("it turns", 4, isles.ship(0, 0, 1));
        CHECK.is("nothing moves by asking", 0, isles.has(0));
        CHECK.is("nor the year", 0, isles.count(3));
        CHECK.is("no act", 0, isles.count(4));
        isles.year();
        isles.year();
        CHECK.is("from this year on", 0, isles.ship(0, 0, 1));
        CHECK.is("and no fair any more", 3, isles.ship(0, 0, 0));
        // There ahead of the fair of the same year.
        CHECK.is("ahead of the fair", 1, Check.told(sea + "fair 0 0 1;").ship(3, 0, 0));
        CHECK.is("the fair is missed", 4, Check.told(sea + "fair 0 0 1;").ship(4, 0, 0));
        CHECK.is("those who may not", 2, Check.told(sea + "fair 0 0 1;law 0;").ship(4, 0, 0));
        // Debts go along: the second fair is of those who may not by then.
        String debts = "name a 0 0;name bbb 30 0;fair 0 0 1;fair 1 0 1;law debt<2;";
        CHECK.is("isle 0 stays away", 10, Check.told(debts).ship(6, 0, 0));
    }
}
