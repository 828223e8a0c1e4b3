/** Promises 27 to 30: what is seen, sales, which isle to look at next. */
public final class ChartTest {
    private static final Check CHECK = new Check("ChartTest");

    public static void main(String[] args) {
        seen();
        sales();
        salesByLaw();
        look();
        eight();
        CHECK.end();
    }

    private static void seen() {
        BarterIsles isles = Check.told("name a 0 0;name b 0 0;");
        for (int i = 1; i <= 8; i++) {
            CHECK.is("seen", i, isles.see(i & 1, 0));
        }
        CHECK.is("the ninth", -1, isles.see(0, 0));
        CHECK.is("STATUS", 1, isles.count(9));
        CHECK.noSuch("isle, ahead", () -> isles.see(2, 0));
        CHECK.noSuch("name, ahead", () -> isles.see(0, -1));
        CHECK.is("STATUS stays", 1, isles.count(9));
        isles.forget();
        CHECK.is("forgotten", 0, isles.count(5));
        CHECK.is("seen anew", 1, isles.see(0, 1));
        CHECK.is("no act", 0, isles.count(4));
    }

    private static void row(BarterIsles isles, int k, int rows, int... first) {
        CHECK.is("sales " + k, rows, isles.sales(k, -1));
        for (int i = 0; i < first.length; i++) {
            CHECK.is("sales " + k + " " + i, first[i], isles.sales(k, i));
        }
        CHECK.is("behind sales " + k, -1, isles.sales(k, first.length));
    }

    private static void sales() {
        BarterIsles isles = Check.told("name a 0 0;name b 0 0;name c 0 0;");
        row(isles, 0, 1);
        row(isles, 1, 3, 1);
        row(isles, 2, 9, 1, 1);
        row(isles, 3, 27, 1, 1, 1);
        isles.see(0, 0);
        row(isles, 0, 1);
        row(isles, 1, 1, 12);
        row(isles, 2, 3, 1, 1);
        isles.see(1, 2);
        row(isles, 0, 0);
        row(isles, 1, 1, 12);
        row(isles, 2, 0);
        row(isles, 3, 9, 1, 1, 12);
        isles.see(1, 1);
        row(isles, 3, 0);
        isles.forget();
        isles.swap(0, 1);
        isles.see(0, 0);
        row(isles, 1, 1, 1);
        CHECK.is("far behind", -1, isles.sales(1, Integer.MAX_VALUE));
        CHECK.noSuch("i -2, ahead of k", () -> isles.sales(4, -2));
        CHECK.illegal("k 4", () -> isles.sales(4, -1));
        CHECK.illegal("k -1", () -> isles.sales(-1, 0));
        row(new BarterIsles(), 0, 1);
        row(new BarterIsles(), 1, 0);
    }

    private static void salesByLaw() {
        BarterIsles isles = Check.told("name a 0 0;name b 1 0;name c 2 0;law far=1;");
        row(isles, 1, 2, 1);
        // 01, then the names are b a c: 02 (b, c) and 01 again; 12 (b, c), then a c b: 12 and 02 (a, b).
        row(isles, 2, 4, 1, 1);
        BarterIsles owing = Check.told("name a 0 0;name bbb 0 0;law debt<1;");
        row(owing, 3, 1, 1, 1, 1);
        owing.swap(0, 1);
        row(owing, 1, 0);
        owing.forgive(0, 1);
        row(owing, 1, 1, 1);
        BarterIsles yearly = Check.told("name a 0 0;name b 0 0;law year<1;");
        row(yearly, 1, 1, 1);
        yearly.year();
        row(yearly, 1, 0);
        yearly.undo();
        row(yearly, 1, 1, 1);
    }

    private static void look() {
        BarterIsles isles = Check.told("name a 0 0;name b 1 0;name c 2 0;law far=1;");
        // 01 and 12: isle 0 has b, a; 1 has a, c; 2 has c, b: all one by one.
        CHECK.is("all alike", 0, isles.look(1));
        // b a c to a b c and c a b; a c b to a b c and b c a: isle 0: a a b c; 1: a b b c; 2: a b c c: 0 is the least.
        CHECK.is("by two", 0, isles.look(2));
        BarterIsles far = Check.told("name a 0 0;name b 9 0;name c 10 0;name d 12 0;law far<4;");
        // 12, 13, 23: isle 0 always has a; 1: c, d, b; 2: b, c, d; 3: d, b, c.
        CHECK.is("not the one that is known", 1, far.look(1));
        far.see(1, 1);
        CHECK.is("one row", 0, far.look(1));
        far.see(1, 2);
        CHECK.is("no rows", -1, far.look(1));
        CHECK.is("k 0 without rows", -1, far.look(0));
        far.forget();
        CHECK.is("k 0", 0, far.look(0));
        CHECK.illegal("k 4", () -> far.look(4));
        CHECK.illegal("k -1", () -> far.look(-1));
        CHECK.is("without isles", -1, new BarterIsles().look(0));
        CHECK.is("without isles", -1, new BarterIsles().look(3));
    }

    private static void eight() {
        BarterIsles isles = Check.told("name a 0 0;name b 0 0;name c 0 0;name d 0 0;name e 0 0;name f 0 0;name g 0 0;name h 0 0;");
        row(isles, 3, 28 * 28 * 28, 1, 1, 1);
        isles.see(7, 0);
        row(isles, 1, 1, 7);
        // 7 always has a; 1 to 6 have their own in most rows; 0 never does, for 7 has it.
        CHECK.is("look", 0, isles.look(3));
    }
}
