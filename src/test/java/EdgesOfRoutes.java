/** Terms 4: told ARRANGEMENTS by the fewest SWAPS, ships. Promises 19 and 20: swaps, ship. */
final class EdgesOfRoutes extends Edges {
    EdgesOfRoutes(Check check, Doc doc) {
        super(check, doc);
    }

    @Override
    void run() {
        arrangements();
        bySwaps();
        ships();
        shipsAndFairs();
        swaps();
        ship();
    }

    private void asked(BarterIsles isles, int arrangement, int fewest, int first, int ofItself) {
        String to = " to " + Integer.toOctalString(arrangement);
        is("the fewest" + to, fewest, isles.swaps(arrangement, 0));
        is("the first" + to, first, isles.swaps(arrangement, 1));
        is("of itself" + to, ofItself, isles.swaps(arrangement, 2));
    }

    private void arrangements() {
        of("Terms 4", "AN ARRANGEMENT is a row of NAMES by ISLES, as figures to the base 8, ISLE 0's the lowest.");
        asked(told(names(3)), 0210, 0, NONE, 0);
        asked(told(names(3)), 0120, 1, 12, 1);
        asked(told(names(3)), 0102, 2, 1, 2);
        BarterIsles eight = told(names(8));
        is("of 8, as it is", 0, eight.swaps(076543210, 2));
        is("of 8, turned round", 4, eight.swaps(001234567, 2));
        is("of 8, all by one", 7, eight.swaps(007654321, 2));
        asked(told(names(1)), 0, 0, NONE, 0);
        asked(new BarterIsles(), 0, 0, NONE, 0);
    }

    private void bySwaps() {
        of("Terms 4", "BY SWAPS of two that MAY (by debts, YEAR as they are now in all of them: debts are not asked anew)");
        BarterIsles isles = told("name a 0 0;name bbbbb 0 0;name ccccccccc 0 0;law debt<1 and year<1;");
        isles.swap(0, 1);
        // 0 owes 1, so these two may not; 0 and 2 may twice, though 0 would owe 2 behind the first time.
        asked(isles, row(0, 1, 2), 3, 2, 1);
        isles.year();
        asked(isles, row(0, 1, 2), NONE, NONE, 1);
        isles.undo();
        asked(isles, row(0, 1, 2), 3, 2, 1);
        isles.image();
        isles.forgive(1, 0);
        asked(isles, row(0, 1, 2), 1, 1, 1);
        isles.restore();
        asked(isles, row(0, 1, 2), 3, 2, 1);
        of("Terms 4", "the fewest from now to a told ARRANGEMENT");
        BarterIsles near = told("name a 0 0;name b 1 0;name c 2 0;name d 60 60;law far=1;");
        asked(near, row(2, 1, 0, 3), 3, 1, 1);
        near.swap(1, 2);
        asked(near, row(2, 1, 0, 3), 2, 2, 2);
        asked(near, row(0, 1, 2, 3), 1, 12, 1);
        near.undo();
        asked(near, row(0, 2, 1, 3), 1, 12, 1);
        near.swap(1, 2);
        asked(near, row(0, 2, 1, 3), 0, NONE, 0);
        of("Terms 4", "the first SWAP of the first such row of them");
        asked(told(names(4)), row(1, 0, 3, 2), 2, 1, 2);
        asked(told(names(4)), row(0, 1, 3, 2), 1, 23, 1);
        asked(told(names(4)), row(3, 1, 2, 0), 1, 3, 1);
        asked(told(names(3)), row(2, 0, 1), 2, 1, 2);
        // 01 may not by their letters; behind 02 not 12 by theirs: so 12, then 01.
        asked(told("name a 0 0;name b 0 0;name cc 0 0;law mine+yours=3;"), row(2, 0, 1), 2, 12, 2);
        of("Terms 4", "none (never)");
        asked(told(names(2) + "law 0;"), row(1, 0), NONE, NONE, 1);
        asked(told(names(2) + "law 0;"), row(0, 1), 0, NONE, 0);
        of("Terms 4", "SPENT, if there are more than 6 ISLES");
        asked(told(names(6)), row(1, 2, 3, 4, 5, 0), 5, 1, 5);
        asked(told(names(6)), row(5, 4, 3, 2, 1, 0), 3, 5, 3);
        asked(told(names(6)), row(0, 1, 2, 3, 5, 4), 1, 45, 1);
        asked(told(names(7)), row(0, 1, 2, 3, 4, 5, 6), -2, -2, 0);
        asked(told(names(8)), row(1, 2, 3, 4, 5, 6, 7, 0), -2, -2, 7);
        of("Terms 4", "OF ITSELF: the fewest, were all SWAPS allowed.");
        asked(told(names(4) + "law 0;"), row(1, 0, 3, 2), NONE, NONE, 2);
        asked(told(names(4) + "law 0;"), row(1, 2, 3, 0), NONE, NONE, 3);
    }

    private void ships() {
        of("Terms 4", "A SHIP goes from a PLACE in this YEAR on for an ISLE");
        BarterIsles isles = told("name a 0 0;name b 60 0;fair 1 0 1;");
        is("there in YEAR 0 already", 1, isles.ship(3, 0, 0));
        // At 6, at 3, then the ISLE is at 60.
        is("the ISLE is gone in YEAR 1", 21, isles.ship(9, 0, 0));
        isles.year();
        isles.year();
        is("FAIRS of YEARS gone by are none", 20, isles.ship(0, 0, 0));
        of("Terms 4", "each YEAR, ahead of its FAIRS, it goes SPEED places, first along x as far as that ISLE is off, then along y");
        for (int speed = 1; speed <= 9; speed++) {
            BarterIsles by = told("name a 20 20;speed " + speed + ";");
            is("SPEED " + speed, (20 + speed - 1) / speed, by.ship(0, 20, 0));
            is("SPEED " + speed + " the other way", (20 + speed - 1) / speed, by.ship(40, 20, 0));
            is("SPEED " + speed + " along y", (20 + speed - 1) / speed, by.ship(20, 0, 0));
            is("SPEED " + speed + " along both", (40 + speed - 1) / speed, by.ship(40, 40, 0));
        }
        is("3 without", 14, told("name a 20 20;").ship(0, 0, 0));
        // In YEAR 0 to 2 1 (first along y: to 0 3), the ISLE is at 5 1 then.
        is("first along x", 2, told("name a 2 5;name b 5 1;fair 0 0 1;").ship(0, 0, 0));
        is("first along x, back", 2, told("name a 2 0;name b 0 4;fair 0 0 1;").ship(4, 5, 0));
        is("x no farther than it is off", 2, told("name a 1 9;name b 1 3;fair 0 0 1;").ship(0, 0, 0));
        of("Terms 4", "behind how many YEARS (0: it is there) it is where the ISLE is, ahead of FAIRS");
        is("there, though a FAIR would take it off", 0, told("name a 5 5;name b 0 0;fair 0 0 1;").ship(5, 5, 0));
        is("one place off", 1, told("name a 5 5;").ship(5, 6, 0));
        is("where it begins, not where it ends", 1, told("name abc 5 5;").ship(7, 5, 0));
        is("there ahead of the FAIR that takes it off", 1, told("name a 5 5;name b 60 60;fair 0 0 1;").ship(5, 8, 0));
        // At 5 6, from there to 60 60: 109 places.
        is("not there ahead of the FAIR", 38, told("name a 5 5;name b 60 60;fair 0 0 1;").ship(5, 9, 0));
        of("Terms 4", "none within 100");
        is("100 by 1", 100, told("name a 60 40;speed 1;").ship(0, 0, 0));
        is("101 by 1", NONE, told("name a 60 41;speed 1;").ship(0, 0, 0));
        is("120 by 1", NONE, told("name a 60 60;speed 1;").ship(0, 0, 0));
        is("120 by 2", 60, told("name a 60 60;speed 2;").ship(0, 0, 0));
        // At 1 0 it goes off to 60 60, and back when the ship is at 33 0.
        is("it never meets it", NONE, told("name a 0 0;name b 60 60;speed 1;fair 58 0 1;fair 90 0 1;").ship(60, 0, 0));
    }

    private void shipsAndFairs() {
        of("Terms 4", "then FAIRS are (of those who MAY), and it is one YEAR later");
        String sea = "name a 0 0;name b 9 0;";
        is("FAIRS of its YEARS only", 2, told(sea + "fair 2 0 1;").ship(6, 0, 0));
        // At 4, at 1, then the ISLE is at 9.
        is("the FAIR of the YEAR that it goes on in", 5, told(sea + "fair 1 0 1;").ship(7, 0, 0));
        is("who may not", 3, told(sea + "fair 1 0 1;law 0;").ship(7, 0, 0));
        is("who may in that YEAR only", 5, told(sea + "fair 1 0 1;law year=1;").ship(7, 0, 0));
        is("who may not in that YEAR", 3, told(sea + "fair 1 0 1;law year=0;").ship(7, 0, 0));
        // Two FAIRS in YEAR 0; by the debt of the first one the second is none.
        is("debts go along", 4, told("name a 0 0;name bbb 9 0;fair 0 0 1;fair 0 0 1;law debt<2;").ship(4, 0, 0));
        of("Terms 4", "(What is stays.)");
        BarterIsles isles = told("name a 0 0;name bbb 60 60;fair 0 0 1;fair 3 0 1;");
        isles.see(0, 1);
        int[] due = state(isles);
        // To 57 0, 60 0, 60 3, 60 6, where the ISLE is at 0 0 again: 66 places.
        is("there and back", 26, isles.ship(60, 0, 0));
        same("state", due, state(isles));
        is("the same again", 26, isles.ship(60, 0, 0));
    }

    private void swaps() {
        of("Promise 19", "BY SWAPS: the fewest (what 0), the first SWAP (1: 10 by the lesser ISLE and the other one; NONE, if none is needed), OF ITSELF (2)");
        BarterIsles isles = told(names(6));
        asked(isles, row(0, 1, 2, 3, 4, 5), 0, NONE, 0);
        asked(isles, row(0, 1, 2, 5, 4, 3), 1, 35, 1);
        is("to ask is no ACT", 0, isles.count(4));
        of("Promise 19", "NONE: never; -2: SPENT (what 0 and 1).");
        asked(told(names(6) + "law 0;"), row(1, 0, 2, 3, 4, 5), NONE, NONE, 1);
        asked(told(names(7)), row(1, 0, 2, 3, 4, 5, 6), -2, -2, 1);
        of("Promise 19", "NoSuchElementException: another what.");
        for (int wrong : new int[] {3, MAX, -1, MIN}) {
            check.noSuch("what " + wrong, () -> isles.swaps(row(0, 1, 2, 3, 4, 5), wrong));
            check.noSuch("what " + wrong + ", ahead of no ARRANGEMENT", () -> isles.swaps(-1, wrong));
        }
        of("Promise 19", "IllegalArgumentException (behind that): no ARRANGEMENT of all NAMES.");
        BarterIsles three = told(names(3));
        BarterIsles eight = told(names(8));
        for (int what = 0; what <= 2; what++) {
            int of = what;
            check.illegal("a NAME twice", () -> three.swaps(0110, of));
            check.illegal("a NAME that there isn't", () -> three.swaps(0310, of));
            check.illegal("a figure too few", () -> three.swaps(010, of));
            check.illegal("a figure too many", () -> three.swaps(03210, of));
            check.illegal("the highest figure", () -> three.swaps(0210 | 1 << 30, of));
            check.illegal("below 0", () -> three.swaps(-1, of));
            check.illegal("the lowest of all", () -> three.swaps(MIN, of));
            check.illegal("as it is, but below 0", () -> three.swaps(MIN | 0210, of));
            check.illegal("the highest of all", () -> three.swaps(MAX, of));
            check.illegal("of 8, a NAME twice", () -> eight.swaps(077543210, of));
            check.illegal("of 8, a figure too many", () -> eight.swaps(0176543210, of));
            check.illegal("of 8, below 0", () -> eight.swaps(MIN | 076543210, of));
            check.illegal("of none", () -> new BarterIsles().swaps(1, of));
            check.illegal("of one", () -> told(names(1)).swaps(1, of));
        }
    }

    private void ship() {
        of("Promise 20", "A SHIP: behind how many YEARS");
        BarterIsles isles = told("name a 0 0;name b 60 60;");
        is("there", 0, isles.ship(0, 0, 0));
        is("there, at the last PLACE", 0, isles.ship(60, 60, 1));
        is("from end to end", 40, isles.ship(60, 60, 0));
        of("Promise 20", "NONE: none.");
        is("none", NONE, told("name a 60 60;speed 1;").ship(0, 0, 0));
        of("Promise 20", "IllegalArgumentException (behind NoSuchElementException): a PLACE is not 0 to 60.");
        for (int wrong : new int[] {61, MAX, -1, MIN}) {
            check.illegal("x " + wrong, () -> isles.ship(wrong, 0, 0));
            check.illegal("y " + wrong, () -> isles.ship(0, wrong, 0));
            check.noSuch("x and y " + wrong + ", behind no such ISLE", () -> isles.ship(wrong, wrong, 2));
            check.noSuch("ISLE " + (wrong == 61 ? 2 : wrong), () -> isles.ship(0, 0, wrong == 61 ? 2 : wrong));
        }
        check.noSuch("without ISLES", () -> new BarterIsles().ship(61, 61, 0));
    }
}
