/** Promises 9 to 14: debts, the law, swaps, years, debts forgiven, all undone. */
public final class ActTest {
    private static final Check CHECK = new Check("ActTest");

    public static void main(String[] args) {
        debts();
        wrongInputs();
        laws();
        lawsByValues();
        lawForBoth();
        years();
        forgiven();
        undone();
        fortyAreKept();
        fortyOfAllKinds();
        CHECK.end();
    }

    private static void debts() {
        BarterIsles isles = Check.told("name a 0 0;name bbb 0 0;name ccccccc 0 0;");
        CHECK.is("a for bbb", 2, isles.swap(0, 1));
        CHECK.is("owes", 2, isles.debt(0, 1));
        CHECK.is("is owed", -2, isles.debt(1, 0));
        CHECK.is("bbb for ccccccc", 4, isles.swap(0, 2));
        CHECK.is("owes", 4, isles.debt(0, 2));
        CHECK.is("another debt stays", 2, isles.debt(0, 1));
        CHECK.is("a for bbb", 2, isles.swap(1, 2));
        CHECK.is("ccccccc for bbb", -4, isles.swap(0, 1));
        CHECK.is("set off", -2, isles.debt(0, 1));
        CHECK.is("owed to 1", 2, isles.debt(1, 0));
        CHECK.is("has", 1, isles.has(0));
        CHECK.is("has", 2, isles.has(1));
        CHECK.is("has", 0, isles.has(2));
    }

    private static void wrongInputs() {
        BarterIsles isles = Check.told("name a 0 0;name b 0 0;");
        CHECK.noSuch("debt 2", () -> isles.debt(2, 2));
        CHECK.noSuch("debt -1", () -> isles.debt(0, -1));
        CHECK.illegal("debt of one", () -> isles.debt(1, 1));
        CHECK.noSuchTest("may 2", () -> isles.may(2, 2));
        CHECK.noSuchTest("may -1", () -> isles.may(-1, 0));
        CHECK.illegalTest("may of one", () -> isles.may(1, 1));
        CHECK.noSuch("swap 2", () -> isles.swap(2, 2));
        CHECK.noSuch("swap -1", () -> isles.swap(0, -1));
        CHECK.is("swap of one", -99, isles.swap(1, 1));
        CHECK.is("is refused", 1, isles.count(8));
        CHECK.is("is no act", 0, isles.count(4));
        CHECK.noSuch("forgive 2", () -> isles.forgive(2, 2));
        CHECK.illegal("forgive of one", () -> isles.forgive(0, 0));
        CHECK.is("throwing is not refusing", 1, isles.count(8));
        CHECK.is("no act", 0, isles.count(4));
        CHECK.is("nothing to undo", -1, isles.undo());
        CHECK.is("nor is that", 1, isles.count(8));
    }

    private static void law(String law, boolean due) {
        BarterIsles isles = Check.told("name a 0 0;name b 0 0;law " + law + ";");
        CHECK.is("law " + law, due ? 1 : 0, isles.may(0, 1) ? 1 : 0);
    }

    private static void laws() {
        law("1", true);
        law("0", false);
        law("7-7", false);
        law("0-5", true);
        law("2+3*4=14", true);
        law("(2+3)*4=20", true);
        law("10-3-2=5", true);
        law("100/10/5=2", true);
        law("7/2=3", true);
        law("(0-7)/2=0-3", true);
        law("5/0=0", true);
        law("5/0+1", true);
        law("1<2", true);
        law("2<2", false);
        law("not 0", true);
        law("not 5", false);
        law("not not 5=1", false);
        law("(not not 5)=1", true);
        law("not 1=2", true);
        law("(5 and 3)=1", true);
        law("(5 or 3)=1", true);
        law("(0 or 3)=1", true);
        law("1 or 0 and 0", true);
        law("(1 or 0) and 0", false);
        law("0 and 0 or 1", true);
        law("not 0 and 0", false);
        law("(3<4)+(4=4)=2", true);
        law("9999*9999*9999<0", wraps() < 0);
        law("9999*9999*9999*9999*9999/7=0", false);
        law("(5)=5", true);
        law("(0-2147*1000*1000-4836*100-48)/(0-1)<0", true);
    }

    private static int wraps() {
        return 9999 * 9999 * 9999;
    }

    private static void lawsByValues() {
        String sea = "name abc 5 7 colony;name de 9 1 north;name f 0 0;law ";
        // What holds for one only must be made to hold for both: the other one's side is always let through.
        CHECK.yes("mine", Check.told(sea + "mine=3 or mine=2;").may(0, 1));
        CHECK.no("mine is not the other's", Check.told(sea + "mine=3 and yours=3;").may(0, 1));
        CHECK.yes("yours", Check.told(sea + "mine=3 and yours=2 or mine=2 and yours=3;").may(0, 1));
        CHECK.yes("far", Check.told(sea + "far=10;").may(0, 1));
        CHECK.yes("far", Check.told(sea + "far=12;").may(0, 2));
        CHECK.yes("sorts", Check.told(sea + "mine=3 and sort=1 and other=2 or mine=2 and sort=2 and other=1;").may(1, 0));
        CHECK.yes("plain", Check.told(sea + "sort=0 or other=0;").may(2, 0));
        BarterIsles isles = Check.told(sea + "year*10+debt=10+0 or year=0 or debt*debt=1;");
        CHECK.yes("year 0", isles.may(0, 1));
        isles.swap(0, 1);
        isles.year();
        CHECK.yes("debt of both", isles.may(0, 1));
        CHECK.yes("year 1, debt 0", isles.may(0, 2));
        isles.year();
        CHECK.no("year 2, debt 0", isles.may(0, 2));
        CHECK.yes("year 2, debt 1", isles.may(0, 1));
        isles.forgive(0, 1);
        CHECK.no("year 2, forgiven", isles.may(0, 1));
    }

    private static void lawForBoth() {
        BarterIsles isles = Check.told("name abc 0 0;name de 0 0;name f 0 0;law debt<2;");
        CHECK.is("f for abc", 2, isles.swap(2, 0));
        CHECK.no("2 owes too much", isles.may(2, 0));
        CHECK.no("asked by the other one", isles.may(0, 2));
        CHECK.is("refused", -99, isles.swap(0, 2));
        CHECK.is("STATUS", 1, isles.count(8));
        CHECK.is("names stay", 0, isles.has(2));
        CHECK.is("acts", 1, isles.count(4));
        CHECK.yes("with others it may", isles.may(2, 1));
    }

    private static void years() {
        BarterIsles isles = Check.told("name a 0 0;name bb 0 0;name ccc 0 0;fair 1 0 1;fair 0 1 2;fair 0 0 1;fair 0 1 2;law debt<2;");
        // 1-2: bb for ccc, 1 owes 1; 0-1: a for ccc, 0 owes 2; 1-2: a for bb, 1 owes 1 more: 2.
        CHECK.is("year 0", 3, isles.year());
        CHECK.is("has", 2, isles.has(0));
        CHECK.is("has", 1, isles.has(1));
        CHECK.is("has", 0, isles.has(2));
        CHECK.is("debt", 2, isles.debt(0, 1));
        CHECK.is("debt", 2, isles.debt(1, 2));
        CHECK.is("the year", 1, isles.count(3));
        CHECK.is("one act", 1, isles.count(4));
        CHECK.is("year 1: those may not", 0, isles.year());
        CHECK.is("which is not refused", 0, isles.count(8));
        CHECK.is("year 2: none", 0, isles.year());
        CHECK.is("the year", 3, isles.count(3));
        isles.undo();
        isles.undo();
        CHECK.is("undo the year of three", 0, isles.undo());
        for (int isle = 0; isle < 3; isle++) {
            CHECK.is("home", isle, isles.has(isle));
            CHECK.is("no debt", 0, isles.debt(isle, (isle + 1) % 3));
        }
        CHECK.is("the year", 0, isles.count(3));
        BarterIsles late = Check.told("name a 0 0;name b 0 0;fair 200 0 1;");
        for (int year = 0; year < 200; year++) {
            CHECK.is("no fair yet", 0, late.year());
        }
        CHECK.is("the fair of 200", 1, late.year());
        CHECK.is("none later", 0, late.year());
        CHECK.is("the year", 202, late.count(3));
        CHECK.is("swapped", 1, late.has(0));
    }

    private static void forgiven() {
        BarterIsles isles = Check.told("name a 0 0;name bbbb 0 0;name c 0 0;");
        isles.swap(0, 1);
        CHECK.is("as the first one's", -3, isles.forgive(1, 0));
        CHECK.is("gone", 0, isles.debt(0, 1));
        CHECK.is("gone both ways", 0, isles.debt(1, 0));
        CHECK.is("of 0", 0, isles.forgive(1, 2));
        CHECK.is("is an act too", 3, isles.count(4));
        CHECK.is("undo", 2, isles.undo());
        CHECK.is("undo", 1, isles.undo());
        CHECK.is("owed again", 3, isles.debt(0, 1));
        CHECK.is("both ways", -3, isles.debt(1, 0));
        CHECK.is("undo", 0, isles.undo());
        CHECK.is("none", 0, isles.debt(0, 1));
    }

    private static void undone() {
        BarterIsles isles = Check.told("name a 0 0;name bbbb 0 0;name cc 0 0;fair 0 0 2;");
        isles.swap(0, 1);
        isles.year();
        isles.forgive(0, 2);
        isles.swap(2, 1);
        isles.undo();
        isles.undo();
        CHECK.is("debt of the fair", -2, isles.debt(0, 2));
        isles.undo();
        CHECK.is("debt of the swap stays", 3, isles.debt(0, 1));
        CHECK.is("no debt of the fair", 0, isles.debt(0, 2));
        CHECK.is("year", 0, isles.count(3));
        CHECK.is("has", 1, isles.has(0));
        CHECK.is("undo", 0, isles.undo());
        CHECK.is("undo", -1, isles.undo());
        CHECK.is("has", 0, isles.has(0));
    }

    private static void fortyAreKept() {
        BarterIsles isles = Check.told("name a 0 0;name bb 0 0;");
        for (int i = 0; i < 43; i++) {
            isles.swap(0, 1);
        }
        CHECK.is("forty", 40, isles.count(4));
        for (int i = 39; i >= 0; i--) {
            CHECK.is("undo", i, isles.undo());
        }
        CHECK.is("none is left", -1, isles.undo());
        CHECK.is("the first three stay", 1, isles.has(0));
        CHECK.is("with their debt", 1, isles.debt(0, 1));
    }

    private static void fortyOfAllKinds() {
        BarterIsles isles = Check.told("name a 0 0;name bb 0 0;name cccc 0 0;fair 9 0 1;fair 10 1 2;fair 11 0 2;");
        int[][] states = new int[46][];
        for (int i = 0; i < 45; i++) {
            states[i] = state(isles);
            int one = i % 3;
            int other = (one + 1 + i % 2) % 3;
            if (i % 3 == 1) {
                isles.year();
            } else if (i % 4 == 0) {
                isles.forgive(one, other);
            } else {
                isles.swap(one, other);
            }
        }
        for (int i = 44; i >= 5; i--) {
            CHECK.is("undo", i - 5, isles.undo());
            CHECK.yes("as it was ahead of act " + i, java.util.Arrays.equals(states[i], state(isles)));
        }
        CHECK.is("none is left", -1, isles.undo());
    }

    private static int[] state(BarterIsles isles) {
        return new int[] {isles.has(0), isles.has(1), isles.has(2), isles.debt(0, 1), isles.debt(0, 2), isles.debt(1, 2), isles.count(3)};
    }
}
