import java.math.BigInteger;

/** Terms 6: charts, clerks, centuries, weather, who is owed, caravans. Promises 27 to 37: see, forget, sales, look, clerks, century .. restore. */
final class EdgesOfCharts extends Edges {
    EdgesOfCharts(Check check, Doc doc) {
        super(check, doc);
    }

    @Override
    void run() {
        termsOfSales();
        termsOfLooking();
        termsOfClerks();
        termsOfCenturies();
        termsOfWeather();
        termsOfOwing();
        status();
        see();
        forget();
        sales();
        look();
        clerks();
        century();
        weather();
        owed();
        caravan();
        image();
        restore();
    }

    private void rows(BarterIsles isles, int k, int count, int... first) {
        is("rows of " + k, count, isles.sales(k, NONE));
        for (int i = 0; i < first.length; i++) {
            is("the first row of " + k + ", its " + i + "-th", first[i], isles.sales(k, i));
        }
        is("behind the first row of " + k, NONE, isles.sales(k, first.length));
    }

    private void termsOfSales() {
        of("Terms 6", "CHARTS: SEEN (at most 8): that an ISLE has a NAME.");
        BarterIsles eight = told(names(8));
        for (int isle = 0; isle < 8; isle++) {
            is("SEEN", isle + 1, eight.see(isle, isle));
        }
        is("the ninth", NONE, eight.see(0, 0));
        // All 8 are where they were: each SWAP must be taken back.
        rows(eight, 0, 1);
        rows(eight, 1, 0);
        rows(eight, 2, 28, 1, 1);
        of("Terms 6", "SALES that fit: rows of just k SWAPS (0 to 3) of two that MAY (all by debts, YEAR as they are now)");
        BarterIsles isles = told("name a 0 0;name bbb 0 0;name ccc 0 0;law debt<1 and year<1;");
        rows(isles, 0, 1);
        rows(isles, 1, 3, 1);
        rows(isles, 2, 9, 1, 1);
        rows(isles, 3, 27, 1, 1, 1);
        isles.swap(0, 1);
        rows(isles, 1, 2, 2);
        rows(isles, 3, 8, 2, 2, 2);
        isles.image();
        isles.forgive(0, 1);
        rows(isles, 1, 3, 1);
        isles.undo();
        rows(isles, 1, 2, 2);
        isles.undo();
        rows(isles, 1, 3, 1);
        isles.restore();
        rows(isles, 1, 2, 2);
        isles.year();
        rows(isles, 0, 1);
        rows(isles, 1, 0);
        of("Terms 6", "one behind the other, from now on, behind which all SEEN is so");
        BarterIsles seen = told(names(3));
        seen.see(0, 1);
        seen.see(1, 2);
        rows(seen, 0, 0);
        rows(seen, 1, 0);
        // b c a by two: 01 then 12, 02 then 01, 12 then 02.
        rows(seen, 2, 3, 1, 12);
        seen.swap(0, 1);
        rows(seen, 1, 1, 12);
        seen.see(2, 1);
        rows(seen, 1, 0);
        rows(seen, 3, 0);
        of("Terms 6", "how many; the first row, its i-th as 10 by the lesser ISLE and the other one");
        BarterIsles last = told(names(8));
        rows(last, 3, 28 * 28 * 28, 1, 1, 1);
        last.see(6, 7);
        last.see(7, 6);
        rows(last, 1, 1, 67);
        last.see(0, 5);
        rows(last, 2, 2, 5, 67);
    }

    private void termsOfLooking() {
        of("Terms 6", "LOOK NEXT: the ISLE of which the most ways that are alike (the rows by which it has one NAME) are fewest");
        // Only b, c and d move: 12, 13, 23. ISLE 0 has a by all three, the others b, c and d by one each.
        BarterIsles isles = told("name a 0 0;name bb 0 0;name cc 0 0;name dd 0 0;law mine=yours;");
        is("not who is known", 1, isles.look(1));
        isles.see(1, 2);
        is("one row: all are known", 0, isles.look(1));
        isles.forget();
        isles.see(1, 1);
        // Rows of 3 that leave ISLE 1 its own: an odd way, so 2 and 3 have swapped: 2 and 3 are always alike too.
        is("all alike", 0, isles.look(3));
        // 12 and 13 may, 23 may not: ISLE 1 has c or d, 2 has b or c, 3 has d or b; ISLE 0 always a.
        is("the least of 1 to 3", 1, told("name a 0 0;name b 10 0;name c 11 0;name d 9 0;law far=1;").look(1));
        // 02, 12, 23: ISLE 2 has a, b or d, each other one keeps its own by two of three.
        is("the fewest, though not the least", 2, told("name a 0 0;name b 0 0;name c 0 0 colony;name d 0 0;law sort+other=1;").look(1));
        of("Terms 6", "of like ones the least; none without rows");
        is("all alike", 0, told(names(8)).look(0));
        is("all alike", 0, told(names(8)).look(1));
        BarterIsles none = told(names(2) + "law 0;");
        is("no rows of 1", NONE, none.look(1));
        is("a row of 0", 0, none.look(0));
        none.see(0, 1);
        is("no row of 0", NONE, none.look(0));
        is("without ISLES there is a row, but no ISLE", NONE, new BarterIsles().look(0));
    }

    private void rests(String what, BarterIsles isles, int count, int first) {
        is(what + ": couples", count, isles.clerks(0, 1, 0));
        is(what + ": the first", first, isles.clerks(0, 1, 1));
    }

    private void termsOfClerks() {
        of("Terms 6", "CLERKS: two, each with an ISLE (not one), claims a NAME: who claims what the other one does has 0 by it");
        // 10 or 0 - 50 each: none takes the other one's, each has its own.
        rests("far off", told("name a 0 0;name b 60 0;"), 1, 1);
        // The other one's is worth 10 - 10 = 0, as much as to claim the same: 01 and 10 rest.
        rests("10 apart", told("name a 0 0;name b 10 0;"), 2, 1);
        rests("9 apart", told("name a 0 0;name b 9 0;"), 2, 1);
        rests("11 apart", told("name a 0 0;name b 11 0;"), 1, 1);
        of("Terms 6", "else as many as it has letters, by 10, less how far that is from his ISLE");
        // To ISLE 0: 10, 20 - 10, 90 - 80: all alike; to ISLE 1: 10 - 10, 20, 90 - 70: so 01, 02, 12, 21 rest.
        rests("all alike to one", told("name a 0 0;name bb 10 0;name ccccccccc 40 40;"), 4, 1);
        BarterIsles moved = told("name a 0 0;name bb 5 0;name ccc 0 50;");
        is("his ISLE is where its NAME is", 12, moved.clerks(0, 2, 1));
        moved.swap(0, 2);
        is("his ISLE is where its NAME is", 21, moved.clerks(0, 2, 1));
        of("Terms 6", "A couple RESTS, if neither has more by another claim");
        rests("all alike", told(names(2)), 2, 1);
        // All of 56 couples of two claims, for any claim is worth 10, and the same 0.
        rests("8 alike", told(names(8)), 56, 1);
        of("Terms 6", "how many; the first (10 by both)");
        // Only the two of nine letters are wanted.
        rests("the last two", told(names(6) + "name ggggggggg 0 0;name hhhhhhhhh 0 0;"), 2, 67);
    }

    /** How many SWAPS, or what an ISLE has, of n ISLES that always may, without FAIRS; draws by numbers without bounds. */
    private static int century(int seed, int years, int isle, int n) {
        BigInteger drawn = BigInteger.valueOf(seed);
        int[] has = new int[n];
        for (int i = 0; i < n; i++) {
            has[i] = i;
        }
        int swaps = 0;
        for (int year = 0; year < years; year++) {
            int[] two = new int[2];
            for (int i = 0; i < 2; i++) {
                drawn = drawn.multiply(BigInteger.valueOf(1103515245)).add(BigInteger.valueOf(12345));
                two[i] = drawn.shiftRight(16).and(BigInteger.valueOf(0x7fff)).intValue() % n;
            }
            if (two[0] != two[1]) {
                swaps++;
                int name = has[two[0]];
                has[two[0]] = has[two[1]];
                has[two[1]] = name;
            }
        }
        return isle == NONE ? swaps : has[isle];
    }

    private void termsOfCenturies() {
        of("Terms 6", "A CENTURY by a seed, from now on: n YEARS (0 to 100): two ISLES are drawn, and SWAP, if they are two and MAY");
        BarterIsles isles = told(names(8));
        for (int seed : new int[] {0, 1, -1, MAX, MIN, 5, 123456789}) {
            for (int years : new int[] {0, 1, 2, 99, 100}) {
                for (int isle = NONE; isle < 8; isle++) {
                    is("seed " + seed + ", " + years + " YEARS, ISLE " + isle, century(seed, years, isle, 8), isles.century(seed, years, isle));
                }
            }
        }
        is("who may not", 0, told(names(8) + "law 0;").century(1, 100, NONE));
        // 2 and 1 are drawn (16838 and 5758 by 3).
        BarterIsles now = told("name a 0 0;name bb 0 0;name ccc 0 0;fair 0 0 1;fair 5 1 2;law debt<1;");
        is("one YEAR", 1, now.century(1, 1, NONE));
        now.swap(1, 2);
        is("from now on: 1 owes 2", 0, now.century(1, 1, NONE));
        of("Terms 6", "then a YEAR as told above: how many SWAPS (not those of FAIRS); the NAME of an ISLE at the end");
        // a ccc bb, then by the FAIR ccc a bb.
        BarterIsles fair = told("name a 0 0;name bb 0 0;name ccc 0 0;fair 0 0 1;fair 1 0 2;");
        is("SWAPS", 1, fair.century(1, 1, NONE));
        is("ISLE 0", 2, fair.century(1, 1, 0));
        is("ISLE 1", 0, fair.century(1, 1, 1));
        is("ISLE 2", 1, fair.century(1, 1, 2));
        BarterIsles year = told(names(3) + "law year=1;");
        is("YEARS go by", century(1, 2, NONE, 3) - century(1, 1, NONE, 3), year.century(1, 2, NONE));
        of("Terms 6", "(Without ISLES nothing is drawn.)");
        is("without ISLES", 0, new BarterIsles().century(1, 100, NONE));
        is("one ISLE is never two", 0, told(names(1)).century(1, 100, NONE));
        is("one ISLE has its own", 0, told(names(1)).century(1, 100, 0));
        of("Terms 6", "A seed becomes itself times 1103515245 and 12345 (an int that wraps)");
        BarterIsles two = told(names(2));
        for (int seed = -40; seed < 40; seed++) {
            is("seed " + seed, century(seed, 100, NONE, 2), two.century(seed, 100, NONE));
        }
        of("Terms 6", "a DRAW of n is its bits 16 to 30 MOD n then");
        BarterIsles seven = told(names(7));
        for (int seed = -20; seed < 20; seed++) {
            is("seed " + seed + ", 3 YEARS", century(seed, 3, 0, 7), seven.century(seed, 3, 0));
            is("seed " + seed + ", 100 YEARS", century(seed, 100, 6, 7), seven.century(seed, 100, 6));
        }
    }

    private void termsOfWeather() {
        of("Terms 6", "WEATHER at a PLACE: how many ISLES with NAMES from the north lie no farther off than so much (0 to 120; along x and y together, by where they begin).");
        BarterIsles isles = told("name abc 0 0 north;name d 60 60 north;name e 0 0 colony;name f 0 0;name g 10 7 north;");
        is("0 off", 1, isles.weather(0, 0, 0));
        is("16 off", 1, isles.weather(0, 0, 16));
        is("17 off: along both", 2, isles.weather(0, 0, 17));
        is("119 off", 2, isles.weather(0, 0, 119));
        is("120 off", 3, isles.weather(0, 0, 120));
        is("the other way", 3, isles.weather(60, 60, 120));
        is("where it ends", 0, isles.weather(2, 0, 1));
        is("2 from where it begins", 1, isles.weather(2, 0, 2));
        isles.swap(0, 3);
        is("as many, whoever has them", 1, isles.weather(0, 0, 0));
    }

    private void termsOfOwing() {
        of("Terms 6", "OWED: the ISLE that is owed most by all others together (above 0; what it owes itself isn't taken off; of like ones the least), how much; none.");
        BarterIsles isles = told("name a 0 0;name bbb 0 0;name ccccc 0 0;name d 0 0;");
        is("none", NONE, isles.owed(0));
        is("nothing", 0, isles.owed(1));
        isles.swap(0, 1);
        isles.swap(3, 1);
        is("1 is owed most", 1, isles.owed(0));
        is("2", 2, isles.owed(1));
        isles.swap(3, 2);
        // 1 is owed 2 by 0; 2 is owed 4 by 3.
        is("2 is owed most", 2, isles.owed(0));
        is("4", 4, isles.owed(1));
        isles.swap(1, 0);
        isles.forgive(0, 1);
        isles.swap(1, 2);
        // 1 had bbb, and has a: 2 owes it 2; that is not taken off the 4.
        is("what it owes isn't taken off", 2, isles.owed(0));
        is("still 4", 4, isles.owed(1));
        BarterIsles alike = told("name aa 0 0;name b 0 0;name cc 0 0;name d 0 0;");
        alike.swap(3, 2);
        is("2 is owed by 3", 2, alike.owed(0));
        alike.swap(1, 0);
        is("of like ones the least", 0, alike.owed(0));
        is("1", 1, alike.owed(1));
        BarterIsles sum = told("name aaaa 0 0;name b 0 0;name cc 0 0;name ddd 0 0;");
        sum.swap(1, 0);
        sum.swap(3, 1);
        // 1 owes 0 three; 3 owes 1 one.
        is("3 to 0", 0, sum.owed(0));
        sum.swap(2, 1);
        sum.forgive(0, 1);
        is("together: 1 by each of two", 1, sum.owed(0));
        is("2", 2, sum.owed(1));
        of("Terms 6", "HOME: of an ISLE's NAME the ISLE that had it at first");
        BarterIsles home = told(names(8));
        home.swap(0, 7);
        is("two", 2, home.caravan(0));
        of("Terms 6", "a CARAVAN: from an ISLE to the HOME of its NAME, to the HOME of that one's, and so on, till it is where it began: how many ISLES it comes to.");
        for (int isle = 1; isle < 7; isle++) {
            home.swap(0, isle);
            is("so many", isle + 2, home.caravan(0));
        }
        is("all 8", 8, home.caravan(7));
        // 0 6 5 4 3 2 1 7: parted into 0 4 3 2 1 7 and 5 6.
        home.swap(0, 5);
        is("parted: 0", 6, home.caravan(0));
        is("parted: 7", 6, home.caravan(7));
        is("parted: 5", 2, home.caravan(5));
        is("parted: 6", 2, home.caravan(6));
    }

    private void status() {
        of("Terms 6", "STATUS: how many calls were refused: 0 of TEXTS with a FAULT, 1 of ACTS, 2 of what is SEEN.");
        BarterIsles isles = told(names(2) + "law 0;");
        for (int i = 0; i < 3; i++) {
            Check.tell(isles, "palm;");
        }
        for (int i = 0; i < 2; i++) {
            isles.swap(0, 1);
        }
        for (int i = 0; i < 12; i++) {
            isles.see(0, 0);
        }
        isles.undo();
        isles.restore();
        check.illegal("too many bytes", () -> isles.sea(1));
        is("TEXTS", 3, isles.count(7));
        is("ACTS", 2, isles.count(8));
        is("SEEN", 4, isles.count(9));
        is("without a FAULT", 0, Check.tell(isles, "speed 1;"));
        is("TEXTS", 3, isles.count(7));
        of("Terms 6", "The constants: `NONE = -1`: There is none.");
        is("NONE", -1, BarterIsles.NONE);
    }

    private void see() {
        of("Promise 27", "SEEN: how many are.");
        BarterIsles isles = told(names(3));
        for (int i = 1; i <= 8; i++) {
            is("SEEN", i, isles.see(i % 3, i % 2));
        }
        of("Promise 27", "NONE (STATUS 2): there are 8.");
        is("a ninth", NONE, isles.see(0, 0));
        is("a tenth", NONE, isles.see(0, 0));
        is("STATUS", 2, isles.count(9));
        is("there are 8", 8, isles.count(5));
        of("Promise 27", "NoSuchElementException (ahead): no such ISLE, NAME.");
        for (int wrong : new int[] {3, MAX, -1, MIN}) {
            check.noSuch("ISLE " + wrong, () -> isles.see(wrong, 0));
            check.noSuch("NAME " + wrong, () -> isles.see(0, wrong));
        }
        is("STATUS stays", 2, isles.count(9));
        isles.forget();
        check.noSuch("ISLE 3", () -> isles.see(3, 0));
        is("nothing is SEEN by that", 0, isles.count(5));
        check.noSuch("without ISLES", () -> new BarterIsles().see(0, 0));
    }

    private void forget() {
        of("Promise 28", "All that is SEEN is forgotten.");
        BarterIsles isles = told(names(2));
        isles.forget();
        is("of nothing", 0, isles.count(5));
        for (int i = 0; i < 8; i++) {
            isles.see(0, 1);
        }
        is("no row of 0", 0, isles.sales(0, NONE));
        isles.forget();
        is("all", 0, isles.count(5));
        is("a row of 0 again", 1, isles.sales(0, NONE));
        is("room again", 1, isles.see(0, 0));
        is("ACTS", 0, isles.count(4));
        new BarterIsles().forget();
    }

    private void sales() {
        of("Promise 29", "SALES: how many rows (i NONE), the i-th SWAP of the first (NONE: there is none, it has not so many).");
        BarterIsles isles = told(names(3));
        rows(isles, 0, 1);
        rows(isles, 1, 3, 1);
        rows(isles, 2, 9, 1, 1);
        rows(isles, 3, 27, 1, 1, 1);
        is("far behind", NONE, isles.sales(3, MAX));
        isles.see(0, 0);
        isles.see(0, 1);
        for (int k = 0; k <= 3; k++) {
            rows(isles, k, 0);
        }
        rows(new BarterIsles(), 0, 1);
        rows(new BarterIsles(), 3, 0);
        rows(told(names(1)), 0, 1);
        rows(told(names(1)), 1, 0);
        of("Promise 29", "NoSuchElementException: i is below NONE.");
        check.noSuch("-2", () -> isles.sales(0, -2));
        check.noSuch("the lowest of all", () -> isles.sales(0, MIN));
        of("Promise 29", "IllegalArgumentException (behind that): k.");
        for (int wrong : new int[] {4, MAX, -1, MIN}) {
            check.illegal("k " + wrong, () -> isles.sales(wrong, NONE));
            check.illegal("k " + wrong + " and i", () -> isles.sales(wrong, 0));
            check.noSuch("k " + wrong + ", behind i", () -> isles.sales(wrong, -2));
        }
    }

    private void look() {
        of("Promise 30", "LOOK NEXT: the ISLE");
        BarterIsles isles = told(names(8));
        for (int k = 0; k <= 3; k++) {
            is("k " + k, 0, isles.look(k));
        }
        isles.see(0, 0);
        // By one SWAP, or three, that leave 0 its own: 0 is always alike, the others more seldom.
        is("not 0, which is SEEN", 1, isles.look(1));
        is("nor by three", 1, isles.look(3));
        of("Promise 30", "NONE: none.");
        isles.see(0, 1);
        is("no rows", NONE, isles.look(3));
        of("Promise 30", "IllegalArgumentException: k.");
        for (int wrong : new int[] {4, MAX, -1, MIN}) {
            check.illegal("k " + wrong, () -> isles.look(wrong));
        }
    }

    private void clerks() {
        of("Promise 31", "CLERKS: how many couples rest (what 0), the first (1; NONE: none).");
        rests("2", told(names(2)), 2, 1);
        // Worth to 0: 10, 20 - 30, 90 - 120; to 1: 10 - 30, 20, 90 - 90.
        BarterIsles isles = told("name a 0 0;name bb 0 30;name ccccccccc 60 60;");
        rests("each its own", isles, 1, 1);
        of("Promise 31", "NoSuchElementException: also another what.");
        for (int wrong : new int[] {2, MAX, -1, MIN}) {
            check.noSuch("what " + wrong, () -> isles.clerks(0, 1, wrong));
            check.noSuch("what " + wrong + ", ahead of both are one", () -> isles.clerks(0, 0, wrong));
        }
        for (int wrong : new int[] {3, MAX, -1, MIN}) {
            check.noSuch("one is " + wrong, () -> isles.clerks(wrong, 0, 0));
            check.noSuch("other is " + wrong, () -> isles.clerks(0, wrong, 1));
        }
        of("Promise 31", "IllegalArgumentException (behind that): both are one.");
        check.illegal("both are one", () -> isles.clerks(2, 2, 0));
        check.illegal("both are one", () -> isles.clerks(0, 0, 1));
        check.noSuch("both are 3", () -> isles.clerks(3, 3, 0));
    }

    private void century() {
        of("Promise 32", "A CENTURY: SWAPS (isle NONE), the NAME of an ISLE at the end.");
        BarterIsles isles = told(names(3) + "fair 7 0 1;");
        int[] due = state(isles);
        is("no YEARS", 0, isles.century(1, 0, NONE));
        is("no YEARS", 2, isles.century(1, 0, 2));
        is("one YEAR", 1, isles.century(1, 1, NONE));
        isles.century(1, 100, NONE);
        same("to ask changes nothing", due, state(isles));
        of("Promise 32", "NoSuchElementException: no such ISLE but NONE.");
        for (int wrong : new int[] {3, MAX, -2, MIN}) {
            check.noSuch("ISLE " + wrong, () -> isles.century(1, 1, wrong));
        }
        check.noSuch("without ISLES", () -> new BarterIsles().century(1, 1, 0));
        of("Promise 32", "IllegalArgumentException (behind that): n.");
        for (int wrong : new int[] {101, MAX, -1, MIN}) {
            check.illegal(wrong + " YEARS", () -> isles.century(1, wrong, NONE));
            check.illegal(wrong + " YEARS of an ISLE", () -> isles.century(1, wrong, 0));
            check.noSuch(wrong + " YEARS, behind no such ISLE", () -> isles.century(1, wrong, 3));
        }
        is("100 YEARS", century(9, 100, NONE, 3), told(names(3)).century(9, 100, NONE));
    }

    private void weather() {
        of("Promise 33", "WEATHER.");
        BarterIsles isles = told("name a 60 60 north;");
        is("from end to end", 1, isles.weather(0, 0, 120));
        is("but one", 0, isles.weather(0, 0, 119));
        is("there", 1, isles.weather(60, 60, 0));
        is("without ISLES", 0, new BarterIsles().weather(0, 0, 120));
        of("Promise 33", "IllegalArgumentException: no such PLACE, so much.");
        for (int wrong : new int[] {61, MAX, -1, MIN}) {
            check.illegal("x " + wrong, () -> isles.weather(wrong, 0, 0));
            check.illegal("y " + wrong, () -> isles.weather(0, wrong, 0));
        }
        for (int wrong : new int[] {121, MAX, -1, MIN}) {
            check.illegal("so much " + wrong, () -> isles.weather(0, 0, wrong));
        }
    }

    private void owed() {
        of("Promise 34", "OWED: the ISLE (what 0; NONE: none), how much (1; 0 without).");
        BarterIsles isles = told("name a 0 0;name bb 0 0;");
        is("none", NONE, isles.owed(0));
        is("nothing", 0, isles.owed(1));
        isles.swap(0, 1);
        is("1 is", 1, isles.owed(0));
        is("1", 1, isles.owed(1));
        isles.forgive(0, 1);
        is("none any more", NONE, isles.owed(0));
        is("nothing any more", 0, isles.owed(1));
        is("without ISLES", NONE, new BarterIsles().owed(0));
        is("without ISLES", 0, new BarterIsles().owed(1));
        of("Promise 34", "NoSuchElementException: another what.");
        for (int wrong : new int[] {2, MAX, -1, MIN}) {
            check.noSuch("what " + wrong, () -> isles.owed(wrong));
        }
    }

    private void caravan() {
        of("Promise 35", "A CARAVAN: how many ISLES (1: its NAME is at HOME).");
        BarterIsles isles = told(names(8));
        is("at HOME", 1, isles.caravan(0));
        is("at HOME", 1, isles.caravan(7));
        isles.swap(7, 6);
        is("two", 2, isles.caravan(7));
        is("the rest is at HOME", 1, isles.caravan(5));
        for (int wrong : new int[] {8, MAX, -1, MIN}) {
            check.noSuch("ISLE " + wrong, () -> isles.caravan(wrong));
        }
        check.noSuch("without ISLES", () -> new BarterIsles().caravan(0));
    }

    private void image() {
        of("Promise 36", "NAMES of ISLES, debts, the YEAR, ACTS and what is SEEN are kept as an image, in place of another one.");
        BarterIsles isles = told("name a 0 0;name bb 0 0;name ccc 0 0;fair 0 0 1;");
        isles.image();
        isles.year();
        isles.swap(1, 2);
        isles.see(0, 1);
        int[] due = state(isles);
        isles.image();
        same("an image changes nothing", due, state(isles));
        isles.undo();
        isles.undo();
        isles.forget();
        isles.see(2, 2);
        isles.see(2, 1);
        isles.swap(0, 2);
        isles.forgive(0, 1);
        isles.swap(2, 0);
        check.yes("restored", isles.restore());
        same("as the later one", due, state(isles));
        is("what is SEEN: ISLE 0 has bb", 1, isles.sales(0, NONE));
        is("ACTS: the SWAP", 1, isles.undo());
        is("a for ccc is undone", 0, isles.debt(1, 2));
        is("ACTS: the YEAR", 0, isles.undo());
        same("as at first", new int[] {0, 0, 1, 0, 1, 2, 0, 0, 0, 0, 0, 0, 0, 0, 0}, state(isles));
    }

    private void restore() {
        of("Promise 37", "They are as the image again: true.");
        BarterIsles isles = told("name a 0 0;name bb 0 0;");
        for (int i = 0; i < 40; i++) {
            isles.year();
        }
        for (int i = 0; i < 8; i++) {
            isles.see(0, 0);
        }
        isles.image();
        int[] due = state(isles);
        for (int again = 0; again < 3; again++) {
            for (int i = 0; i < 5; i++) {
                isles.swap(0, 1);
            }
            isles.forget();
            isles.see(0, 0);
            isles.see(0, 0);
            isles.swap(0, 0);
            Check.feed(isles, "palm");
            check.yes("again", isles.restore());
            same("state", due, state(isles));
        }
        is("STATUS is not of it", 3, isles.count(8));
        is("nor the tape", 60, isles.count(6));
        is("full of SEEN again", NONE, isles.see(0, 0));
        for (int left = 39; left >= 0; left--) {
            is("all 40 ACTS again", left, isles.undo());
        }
        is("no more", NONE, isles.undo());
        is("the YEAR", 0, isles.count(3));
        of("Promise 37", "False: there is none.");
        check.no("of a new object", new BarterIsles().restore());
        is("a SEA", 0, isles.sea(0));
        check.no("behind a SEA", isles.restore());
        isles.image();
        check.yes("a new one", isles.restore());
        BarterIsles none = new BarterIsles();
        int[] before = counts(none);
        check.no("none", none.restore());
        same("nothing changes", before, counts(none));
        none.image();
        none.year();
        check.yes("an image without ISLES", none.restore());
        same("the YEAR again", before, counts(none));
    }
}
