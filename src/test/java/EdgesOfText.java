/** Terms 1: what a text tells, its TOKENS, its EXPRs, its FAULTS. Promises 1 to 5: a new object, feed, sea, fault, count. */
final class EdgesOfText extends Edges {
    private static final String EIGHT = names(8);
    private static final String TWO = names(2);
    private static final String TWELVE = TWO + "fair 0 0 1;".repeat(12);

    EdgesOfText(Check check, Doc doc) {
        super(check, doc);
    }

    @Override
    void run() {
        use();
        bounds();
        wishes();
        plans();
        tokens();
        lines();
        exprs();
        values();
        faults();
        cantStand();
        tooMuch();
        tooDeep();
        notTold();
        toldAlready();
        newObject();
        feed();
        sea();
        seaAllStays();
        seaAllAnew();
        faultPlace();
        count();
    }

    private void use() {
        of("Use", "An object is used for at most 512 calls after it has been made");
        BarterIsles isles = new BarterIsles();
        for (int i = 1; i <= 510; i++) {
            is("year " + i, 0, isles.year());
        }
        is("call 511: the YEAR", 510, isles.count(3));
        is("call 512: undo", 39, isles.undo());
        of("Use", "what later calls answer is free");
        is("so 512 calls are enough to fill the ACTS", 39, isles.count(4));
    }

    private void bounds() {
        of("Terms 1", "(as many of each, at most 8)");
        for (int n = 0; n <= 8; n++) {
            BarterIsles isles = told(names(n));
            int count = n;
            is("ISLES of " + n, n, isles.count(0));
            check.noSuch("ISLE " + n, () -> isles.has(count));
            check.noSuch("NAME " + n, () -> isles.name(count, 0));
            if (n > 0) {
                is("the last ISLE of " + n, n - 1, isles.has(n - 1));
                is("the last NAME of " + n, 1, isles.name(n - 1, 0));
            }
        }
        fault(names(9), 2, EIGHT.length());
        of("Terms 1", "at first ISLE i has NAME i");
        BarterIsles eight = told(EIGHT);
        for (int i = 0; i < 8; i++) {
            is("ISLE " + i, i, eight.has(i));
            is("NAME " + i, i, eight.name(i, 4));
        }
        of("Terms 1", "A NAME: a WORD (1 to 9 letters");
        is("1 letter", 1, told("name a 0 0;").name(0, 0));
        is("9 letters", 9, told("name abcdefghi 0 0;").name(0, 0));
        fault("name abcdefghij 0 0;", 2, 5);
        fault("name 0 0;", 1, 5);
        of("Terms 1", "no two alike), a PLACE");
        fault("name a 0 0;name a 9 9;", 4, 16);
        fault("name abcdefghi 0 0;name abcdefghi 0 0;", 4, 24);
        fine("name abcdefghi 0 0;name abcdefghj 0 0;name abcdefgh 0 0;name bbcdefghi 0 0;");
        of("Terms 1", "a PLACE x y (0 to 60 each)");
        BarterIsles corners = told("name a 0 60;name b 60 0;");
        is("x 0", 0, corners.name(0, 1));
        is("y 60", 60, corners.name(0, 2));
        is("x 60", 60, corners.name(1, 1));
        is("y 0", 0, corners.name(1, 2));
        fault("name a 61 0;", 2, 7);
        fault("name a 0 61;", 2, 9);
        of("Terms 1", "a SORT (0 plain, 1 colony, 2 north)");
        BarterIsles sorts = told("name a 0 0;name b 0 0 colony;name c 0 0 north;name d 0 0;");
        is("plain", 0, sorts.name(0, 3));
        is("colony", 1, sorts.name(1, 3));
        is("north", 2, sorts.name(2, 3));
        is("plain behind north", 0, sorts.name(3, 3));
    }

    private void wishes() {
        of("Terms 1", "An ISLE WISHES for NAMES in a row (each at most once");
        fine(EIGHT + "wish 7 7 6 5 4 3 2 1 0;");
        fault(EIGHT + "wish 7 7 6 5 4 3 2 1 0 7;", 4, EIGHT.length() + 23);
        fault("name a 0 0;wish 0 0 0;", 4, 20);
        BarterIsles all = told(EIGHT + "wish 7 7 6 5 4 3 2 1 0;");
        for (int name = 1; name < 8; name++) {
            check.yes("the row goes down", all.prefers(7, name, name - 1));
            check.no("and not up", all.prefers(7, name - 1, name));
        }
        of("Terms 1", "without any for none");
        BarterIsles none = told(names(4));
        check.no("none to its own", none.prefers(0, 3, 0));
        check.no("none to another", none.prefers(0, 3, 2));
        of("Terms 1", "one that is not in it it likes least");
        BarterIsles some = told(names(5) + "wish 0 3 2;");
        check.yes("the last of the row to one that is not in it", some.prefers(0, 2, 1));
        check.no("one that is not in it to the last of the row", some.prefers(0, 1, 2));
        check.no("neither of two that are not in it", some.prefers(0, 1, 4));
        check.no("nor the other way round", some.prefers(0, 4, 1));
        of("Terms 1", "but the NAME that it has, if it isn't in it, a little more than these");
        check.yes("its own to one that is not in it", some.prefers(0, 0, 1));
        check.no("one that is not in it to its own", some.prefers(0, 1, 0));
        check.yes("the last of the row to its own", some.prefers(0, 2, 0));
        check.no("its own to the last of the row", some.prefers(0, 0, 2));
        BarterIsles own = told(names(4) + "wish 0 1 0 2;");
        check.yes("its own in the row stays where it is there", own.prefers(0, 1, 0));
        check.yes("also ahead of what is behind it", own.prefers(0, 0, 2));
        own.swap(0, 3);
        check.yes("the NAME that it has, not the one that it had", own.prefers(0, 2, 3));
        check.yes("which stays in its row", own.prefers(0, 0, 2));
        some.swap(0, 4);
        check.yes("what it has now", some.prefers(0, 4, 0));
    }

    private void plans() {
        of("Terms 1", "LAW: a rule");
        check.no("that never holds", told(TWO + "law 0;").may(0, 1));
        check.yes("that always holds", told(TWO + "law 1;").may(0, 1));
        of("Terms 1", "FAIRS (at most 12)");
        is("no FAIR", 0, told(TWO).count(1));
        is("12 FAIRS", 12, told(TWELVE).count(1));
        is("12 FAIRS in a YEAR", 12, told(TWELVE).year());
        fault(TWELVE + "fair 0 0 1;", 2, TWELVE.length());
        of("Terms 1", "in a YEAR (0 to 200), two ISLES, as told by a plan");
        is("the FAIR of YEAR 0", 1, told(TWO + "fair 0 0 1;").year());
        BarterIsles late = told(TWO + "fair 200 1 0;");
        for (int year = 0; year < 200; year++) {
            is("no FAIR in YEAR " + year, 0, late.year());
        }
        is("the FAIR of YEAR 200", 1, late.year());
        is("none of YEAR 201", 0, late.year());
        fault(TWO + "fair 201 0 1;", 2, TWO.length() + 5);
        of("Terms 1", "SPEED (1 to 9; 3 without)");
        is("SPEED 1", 1, told("speed 1;").count(2));
        is("SPEED 9", 9, told("speed 9;").count(2));
        is("without", 3, told("").count(2));
        fault("speed 0;", 2, 6);
        fault("speed 10;", 2, 6);
    }

    private void tokens() {
        of("Terms 1", "A TEXT of at most 700 bytes tells it");
        String last = " ".repeat(689) + "name a 0 0;";
        is("the last byte of 700 counts", 1, told(last).count(0));
        fault(" ".repeat(699) + "$", 1, 699);
        fault(" ".repeat(690) + "name a 0 0", 1, 700);
        of("Terms 1", "TOKENS: words (a .. z, the longest row)");
        BarterIsles ends = told("name az 0 0;");
        is("a", 1, ends.letter(0, 0));
        is("z", 26, ends.letter(0, 1));
        fault("name ` 0 0;", 1, 5);
        fault("name { 0 0;", 1, 5);
        fault("name A 0 0;", 1, 5);
        fault("name Z 0 0;", 1, 5);
        fault("name aB 0 0;", 1, 6);
        fault("namea 0 0;", 1, 0);
        fine("name a0 0north;");
        of("Terms 1", "NUMBERS (1 to 4 digits)");
        is("1 digit", 9, told("name a 9 0;").name(0, 1));
        is("4 digits", 60, told("name a 0060 0000;").name(0, 1));
        fault("name a 00060 0;", 2, 7);
        fine("law 9999;");
        fault("law 10000;", 2, 4);
        fault("name a 0/0;", 1, 8);
        fault("name a 0:0;", 1, 8);
        of("Terms 1", "signs ; ( ) + - * / < =");
        fine("law (1+2-3*4/5<6)=7;");
        for (char sign = 0; sign < 256; sign++) {
            boolean token = sign >= 'a' && sign <= 'z' || sign >= '0' && sign <= '9' || " \n;()+-*/<=".indexOf(sign) >= 0;
            if (!token) {
                fault("law 1+" + sign + "1;", 1, 6);
                fault("law 1" + sign, 1, 5);
            }
        }
        of("Terms 1", "blanks (32, 10) between them count for nothing");
        fine("\n \n name \n\n a  0\n0  north \n ; \n");
        fine(" ");
        fine("\n");
        fault("na me a 0 0;", 1, 0);
        fault("name a 6 0 0;", 1, 11);
        fault("name a\t0 0;", 1, 6);
        fault("name a\r0 0;", 1, 6);
        fault("name a\u00000 0;", 1, 6);
        fault("name a\u00a00 0;", 1, 6);
    }

    private void lines() {
        of("Terms 1", "In quotes is what stands there");
        for (String word : new String[] {"nam", "names", "wis", "wishe", "fai", "fairs", "spee", "speeds", "la", "laws", "colony", "north",
            "game", "fish", "hair", "steed", "jaw", "namf", "wisp", "fain", "speer", "lax"}) {
            fault(word + " 1;", 1, 0);
        }
        fault("name a 0 0 forth;", 1, 11);
        fault("name a 0 0 bolony;", 1, 11);
        fault("law 1 end 1;", 1, 6);
        fault("law 1 er 1;", 1, 6);
        fault("law hot 1;", 3, 4);
        for (String word : new String[] {"nine", "hours", "bar", "port", "ather", "dent", "fear"}) {
            fault("law " + word + ";", 3, 4);
        }
        fault("name a 0 0 colon;", 1, 11);
        fault("name a 0 0 norths;", 1, 11);
        fault("law 1 an 1;", 1, 6);
        fault("law 1 ors 1;", 1, 6);
        fault("law nots 1;", 3, 4);
        of("Terms 1", "[ ] perhaps");
        fine("name a 0 0;name b 0 0 colony;");
        fault("name a 0 0 north north;", 1, 17);
        fault("name a 0 0 colony north;", 1, 18);
        of("Terms 1", "* any number of times, | one of some");
        fine("name a 0 0;wish 0 0;");
        fine(EIGHT + "wish 0 0 1 2 3 4 5 6 7;");
        fault("name a 0 0;wish 0;", 1, 17);
        of("Terms 1", "SEA: LINE*");
        fine("");
        fine("speed 1;");
        fine("law 1;speed 1;name a 0 0;name b 0 0;fair 0 0 1;wish 0 0;");
        of("Terms 1", "LINE: ('name' WORD X Y ['colony' | 'north'] | 'wish' ISLE NAME NAME* | 'fair' YEAR ISLE ISLE | 'speed' NUMBER | 'law' EXPR) ';'");
        fault("speed 1", 1, 7);
        fault("speed 1 law 1;", 1, 8);
        fault("speed 1;;", 1, 8);
        fault(";", 1, 0);
        fault("law 1", 1, 5);
        fault("name a 0 0;wish 0 0", 1, 19);
        fault(TWO + "fair 0 0 1", 1, TWO.length() + 10);
        of("Terms 1", "all in capitals but WORD (any word), EXPR being NUMBERS");
        fine("name name 0 0;name colony 0 0 colony;name north 0 0 north;name not 0 0;name law 0 0;");
        fault("name a x 0;", 1, 7);
        fault("name a 0 x;", 1, 9);
        fault("name a 0 0;wish a 0;", 1, 16);
        fault("name a 0 0;wish 0 a;", 1, 18);
        fault(TWO + "fair x 0 1;", 1, TWO.length() + 5);
        fault(TWO + "fair 0 a 1;", 1, TWO.length() + 7);
        fault(TWO + "fair 0 0 b;", 1, TWO.length() + 9);
        fault("speed one;", 1, 6);
        fault("speed (1);", 1, 6);
        fault("name a 0+0 0;", 1, 8);
    }

    private void law(String law, boolean due) {
        is("law " + law, due ? 1 : 0, told(TWO + "law " + law + ";").may(0, 1) ? 1 : 0);
    }

    private void exprs() {
        of("Terms 1", "EXPR: AND ('or' AND)*");
        law("0 or 0", false);
        law("0 or 0 or 3", true);
        law("1 or 0 and 0", true);
        of("Terms 1", "AND: NOT ('and' NOT)*");
        law("1 and 2 and 3", true);
        law("1 and 2 and 0", false);
        law("not 0 and 0", false);
        of("Terms 1", "NOT: 'not' NOT | SUM [('<' | '=') SUM]");
        law("not 1=2", true);
        law("not not 1", true);
        law("1<1", false);
        law("1<2", true);
        law("1=2", false);
        fault("law 1<2<3;", 1, 7);
        fault("law 1=1=1;", 1, 7);
        of("Terms 1", "SUM: PRODUCT (('+' | '-') PRODUCT)*");
        law("2+3*4=14", true);
        of("Terms 1", "PRODUCT: PART (('*' | '/') PART)*");
        law("2*3+4=10", true);
        fault("law -1;", 1, 4);
        of("Terms 1", "PART: NUMBER | VALUE | '(' EXPR ')'");
        law("(2+3)*4=20", true);
        law("(1 or 0) and 0", false);
        law("mine", true);
        fault("law ();", 1, 5);
        of("Terms 1", "From the left");
        law("10-3-2=5", true);
        law("100/10/5=2", true);
        law("7/2*2=6", true);
        of("Terms 1", "ints that wrap, / cut down to 0, by 0 gives 0");
        law("2147*1000*1000+4836*100+47+1<0", true);
        law("0-2147*1000*1000-4836*100-48-1=2147*1000*1000+4836*100+47", true);
        law("(0-2147*1000*1000-4836*100-48)/(0-1)=0-2147*1000*1000-4836*100-48", true);
        law("8192*8192*64", false);
        law("7/2=3", true);
        law("(0-7)/2=0-3", true);
        law("7/(0-2)=0-3", true);
        law("1/2", false);
        law("(0-1)/2", false);
        law("5/0", false);
        law("5/0=0", true);
        law("0/0=0", true);
        law("5/(1-1)+1=1", true);
        of("Terms 1", "tests, not, and, or are 1 or 0 (what isn't 0 holds)");
        law("(3<4)=1", true);
        law("(4<3)=0", true);
        law("(4=4)=1", true);
        law("(4=3)=0", true);
        law("(not 5)=0", true);
        law("(not 0)=1", true);
        law("(5 and 3)=1", true);
        law("(0 and 3)=0", true);
        law("(5 or 0)=1", true);
        law("(0 or 5)=1", true);
        law("(0 or 0)=0", true);
        law("0-1", true);
        law("(0-1) and (0-2)", true);
        law("not (0-1)", false);
    }

    private void values() {
        String sea = "name abc 5 7 colony;name de 9 1 north;name f 0 60;name ghijklmno 60 0;law ";
        of("Terms 1", "VALUES of one ISLE that would swap with another one: 'mine', 'yours' (how many letters the NAMES have that it has, that the other one has)");
        check.yes("3 and 2", told(sea + "mine*10+yours=32 or mine*10+yours=23;").may(0, 1));
        check.no("for both", told(sea + "mine*10+yours=32;").may(0, 1));
        check.yes("1 and 9", told(sea + "mine*10+yours=19 or mine*10+yours=91;").may(2, 3));
        of("Terms 1", "'far' (how far these are apart: along x and y together)");
        check.yes("4 and 6", told(sea + "far=10;").may(0, 1));
        check.yes("60 and 60", told(sea + "far=120;").may(2, 3));
        check.yes("none", told(TWO + "law far=0;").may(0, 1));
        of("Terms 1", "'sort', 'other' (their SORTS)");
        check.yes("1 and 2", told(sea + "mine=3 and sort*10+other=12 or mine=2 and sort*10+other=21;").may(0, 1));
        check.yes("0 and 1", told(sea + "mine=1 and sort*10+other=1 or mine=3 and sort*10+other=10;").may(2, 0));
        of("Terms 1", "'debt' (how much it owes the other one; below 0: is owed), 'year'");
        BarterIsles isles = told(sea + "year<2 and (debt=0 or debt=1 and mine=3 or debt=0-1 and mine=2);");
        check.yes("no debt", isles.may(0, 1));
        isles.swap(1, 0);
        check.yes("1 owes 1, and has 3 letters", isles.may(0, 1));
        isles.year();
        check.yes("YEAR 1", isles.may(0, 1));
        isles.year();
        check.no("YEAR 2", isles.may(0, 1));
    }

    private void faults() {
        of("Terms 1", "FAULTS, the first along the text");
        fault("speed 0;palm;", 2, 6);
        fault("palm;speed 0;", 1, 0);
        fault("speed 1;speed 0;", 5, 8);
        fault("name a 61 $;", 2, 7);
        fault("law word $;", 3, 4);
        of("Terms 1", "at a TOKEN's first byte");
        fault("   palm;", 1, 3);
        fault("speed  9999;", 2, 7);
        fault("law\n\n abcdefghijk;", 3, 6);
        of("Terms 1", "of one TOKEN the least");
        // No TOKEN of these can have but one FAULT in the text told, so each has two by itself.
        fault("law 1 12345;", 1, 6);
        fault("name 12345 0 0;", 1, 5);
        fault("name a 0 0 abcdefghij;", 1, 11);
        fault("abcdefghij;", 1, 0);
        fault("law 1 word;", 1, 6);
        fault("name a 0 0;wish 12345 0;", 2, 16);
        fault("name a 0 0;wish 0 00000;", 2, 18);
        fault("name a 0 0;fair 0 0 00000;", 2, 20);
        fault("law ((((((word;", 2, 10);
        fault("law ((((((12345;", 2, 10);
        fault("law ((((((*;", 1, 10);
    }

    private void cantStand() {
        of("Terms 1", "1 a TOKEN that can't stand there, or is none");
        fault("5;", 1, 0);
        fault("(", 1, 0);
        fault("name;", 1, 4);
        fault("name a;", 1, 6);
        fault("name a 0;", 1, 8);
        fault("name a 0 0 0;", 1, 11);
        fault("wish;", 1, 4);
        fault("fair;", 1, 4);
        fault(TWO + "fair 0;", 1, TWO.length() + 6);
        fault(TWO + "fair 0 0;", 1, TWO.length() + 8);
        fault(TWO + "fair 0 0 1 1;", 1, TWO.length() + 11);
        fault("speed;", 1, 5);
        fault("speed 1 1;", 1, 8);
        fault("law;", 1, 3);
        fault("law not;", 1, 7);
        fault("law 1+;", 1, 6);
        fault("law 1*;", 1, 6);
        fault("law 1<;", 1, 6);
        fault("law 1 or;", 1, 8);
        fault("law 1 and;", 1, 9);
        fault("law 1 not 1;", 1, 6);
        fault("law 1);", 1, 5);
        fault("law (1;", 1, 6);
        fault("?", 1, 0);
        of("Terms 1", "(the text's length where it ends too soon)");
        String[] begun = {"name", "name a", "name a 0", "name a 0 0", "name a 0 0 north", "name a 0 0;wish", "name a 0 0;wish 0",
            "name a 0 0;wish 0 0", TWO + "fair", TWO + "fair 0", TWO + "fair 0 0", TWO + "fair 0 0 1", "speed", "speed 1", "law", "law 1",
            "law not", "law 1+", "law 1/", "law 1=", "law 1 or", "law 1 and", "law (", "law (1", "law ((((((", "law ((((((1".substring(0, 9)};
        for (String text : begun) {
            fault(text, 1, text.length());
            fault(text + " \n", 1, text.length() + 2);
        }
    }

    private void tooMuch() {
        of("Terms 1", "2 one that can, but is too much: a word of 10 letters or more as a WORD");
        fine("name abcdefghi 0 0;");
        fault("name abcdefghij 0 0;", 2, 5);
        fault("name " + "z".repeat(690) + " 0 0", 2, 5);
        of("Terms 1", "a NUMBER of 5 digits or more");
        fault("name a 00000 0;", 2, 7);
        fault("name a 0 00000;", 2, 9);
        fault("name a 0 0;wish 00000 0;", 2, 16);
        fault("name a 0 0;wish 0 00000;", 2, 18);
        fault(TWO + "fair 00000 0 1;", 2, TWO.length() + 5);
        fault(TWO + "fair 0 00000 1;", 2, TWO.length() + 7);
        fault(TWO + "fair 0 0 00001;", 2, TWO.length() + 9);
        fault("speed 00001;", 2, 6);
        fault("law 00001;", 2, 4);
        fault("law 1+4294967297;", 2, 6);
        fault("name a " + "0".repeat(680) + " 0;", 2, 7);
        of("Terms 1", "or (not in an EXPR) not as told");
        fine("name a 60 60;");
        fault("name a 61 0;", 2, 7);
        fault("name a 0 9999;", 2, 9);
        fine(TWO + "fair 200 0 1;");
        fault(TWO + "fair 201 0 1;", 2, TWO.length() + 5);
        fault("speed 0;", 2, 6);
        fault("speed 10;", 2, 6);
        fine("law 9999+201+61+0;");
        of("Terms 1", "the first TOKEN of the 9th NAME, the 13th FAIR");
        fine(EIGHT);
        fault(EIGHT + " name", 2, EIGHT.length() + 1);
        fault(EIGHT + "name 5", 2, EIGHT.length());
        fine(TWELVE);
        fault(TWELVE + " fair", 2, TWELVE.length() + 1);
        fault(TWELVE + "fair;", 2, TWELVE.length());
    }

    private void tooDeep() {
        of("Terms 1", "of an EXPR within 6 others (a NUMBER, any word, a parenthesis)");
        fine("law (((((1)))));");
        fine("law (((((not mine)))));");
        fine("law (((((1)))))+(((((1)))))and(((((1)))));");
        fault("law ((((((1))))));", 2, 10);
        fault("law ((((((mine))))));", 2, 10);
        fault("law ((((((not 1))))));", 2, 10);
        fault("law ((((((and", 2, 10);
        fault("law ((((((palm", 2, 10);
        fault("law (((((((", 2, 10);
        fault("law ((((((;", 1, 10);
        fault("law (((((()", 1, 10);
        fault("law ((((((-1", 1, 10);
        fault("law ((((((", 1, 10);
        String deep = "law 1 or not 2<3+4*(5 and (6 and (7 and (8 and (9 and (10;";
        fault(deep, 2, deep.indexOf("10;"));
        // As many PARTS as can wait for each other: five at each of six EXPRs, and the last one.
        String waiting = "0 or 1 and 0<0+1*(".repeat(5) + "0 or 1 and 0<0+1*";
        law(waiting + "1)))))", true);
        law(waiting + "0)))))", false);
        of("Terms 1", "the seventh 'not' side by side");
        fine("law not not not not not not 1;");
        fault("law not not not not not not not 1;", 2, 28);
        fault("law not not not not not not not", 2, 28);
        fault("law 1 and not not not not not not not;", 2, 34);
        fine("law not not not not not not 1 and not not not not not not 1 or not 1;");
        fine("law not not not not not not (not not not not not not 1);");
    }

    private void notTold() {
        of("Terms 1", "3 any word where a PART must stand that is no VALUE");
        fault("law palm;", 3, 4);
        fault("law mines;", 3, 4);
        fault("law min;", 3, 4);
        fault("law and;", 3, 4);
        fault("law or 1;", 3, 4);
        fault("law name;", 3, 4);
        fault("law 1+not 1;", 3, 6);
        fault("law 1*palm;", 3, 6);
        fault("law 1<not 1;", 3, 6);
        fault("law 1 and or 1;", 3, 10);
        fault("law not and;", 3, 8);
        fault("law (palm);", 3, 5);
        fault("law abcdefghijk;", 3, 4);
        of("Terms 1", "an ISLE, a NAME that isn't told ahead");
        fault("wish 0 0;name a 0 0;", 3, 5);
        fault("name a 0 0;wish 1 0;name b 0 0;", 3, 16);
        fault("name a 0 0;wish 0 1;name b 0 0;", 3, 18);
        fault("name a 0 0;wish 0 0 1;name b 0 0;", 3, 20);
        fault("name a 0 0;fair 0 1 0;name b 0 0;", 3, 18);
        fault("name a 0 0;fair 0 0 1;name b 0 0;", 3, 20);
        fault("fair 0 0 1;" + TWO, 3, 7);
        fine(EIGHT + "wish 7 7;fair 0 7 0;fair 0 0 7;");
        fault(EIGHT + "wish 8 0;", 3, EIGHT.length() + 5);
        fault(EIGHT + "wish 0 8;", 3, EIGHT.length() + 7);
        fault(EIGHT + "fair 0 8 0;", 3, EIGHT.length() + 7);
        fault(EIGHT + "fair 0 0 9999;", 3, EIGHT.length() + 9);
    }

    private void toldAlready() {
        of("Terms 1", "4 a WORD that a NAME has already");
        fault(TWO + "name b 5 5;", 4, TWO.length() + 5);
        fault(TWO + "name a", 4, TWO.length() + 5);
        fine(TWO + "name ab 0 0;name aa 0 0;");
        of("Terms 1", "a NAME that was WISHED for by that ISLE already");
        fault(TWO + "wish 0 1 0 1;", 4, TWO.length() + 11);
        fine(TWO + "wish 0 1 0;wish 1 1 0;");
        of("Terms 1", "the second ISLE of a FAIR that is the first one");
        fault(TWO + "fair 0 1 1;", 4, TWO.length() + 9);
        fine(TWO + "fair 0 1 0;fair 0 0 1;fair 0 0 1;");
        of("Terms 1", "5 a second 'speed', 'law', 'wish' of the same ISLE (at the ISLE)");
        fault("speed 1;speed 1;", 5, 8);
        fault("speed 1;speed;", 5, 8);
        fault("law 1;law 1;", 5, 6);
        fault("law 1;law", 5, 6);
        fault(TWO + "wish 0 1;wish 0 0;", 5, TWO.length() + 14);
        fault(TWO + "wish 1 1;wish 0 0;wish 01 $", 5, TWO.length() + 23);
        fine(TWO + "wish 1 1;wish 0 1;");
    }

    private void newObject() {
        of("Promise 1", "No ISLES.");
        BarterIsles isles = new BarterIsles();
        same("counts", new int[] {0, 0, 3, 0, 0, 0, 0, 0, 0, 0, 0}, counts(isles));
        check.noSuch("ISLE 0", () -> isles.has(0));
        check.noSuch("NAME 0", () -> isles.name(0, 0));
        check.no("no image", isles.restore());
        is("no FAULT", NONE, isles.fault());
        is("no ACT", NONE, isles.undo());
    }

    private void feed() {
        of("Promise 2", "Twenty bytes come behind the tape, of each number the highest first");
        BarterIsles isles = new BarterIsles();
        // name abcdefghi 60 59 ;
        isles.feed(0x6e616d65, 0x20616263, 0x64656667, 0x68692036, 0x30203539);
        isles.feed(0x3b200a20, 0x20202020, 0x20202020, 0x20202020, 0x20202020);
        is("the FAULT", 0, isles.sea(40));
        for (int i = 0; i < 9; i++) {
            is("letter " + i, i + 1, isles.letter(0, i));
        }
        is("x", 60, isles.name(0, 1));
        is("y", 59, isles.name(0, 2));
        isles.feed(-1, -1, -1, -1, -1);
        is("a byte 255", 1, isles.sea(1));
        of("Promise 2", "how many it has");
        BarterIsles full = new BarterIsles();
        for (int i = 1; i <= 35; i++) {
            is("feed " + i, 20 * i, full.feed(0x20202020, 0x20202020, 0x20202020, 0x20202020, 0x20202020));
        }
        of("Promise 2", "NONE, and none come, if it would have more than 700");
        is("feed 36", NONE, full.feed(0, 0, 0, 0, 0));
        is("feed 37", NONE, full.feed(0, 0, 0, 0, 0));
        is("bytes", 700, full.count(6));
        is("a feed that is not taken is no STATUS", 0, full.count(7) + full.count(8) + full.count(9));
        is("nothing was written over", 0, full.sea(700));
        is("room again", 20, full.feed(0, 0, 0, 0, 0));
    }

    private void sea() {
        of("Promise 3", "The tape's first n bytes (it is empty then) are a SEA, all anew");
        BarterIsles isles = new BarterIsles();
        Check.feed(isles, "name a 0 0;palm;");
        is("what is behind n is not read", 0, isles.sea(11));
        is("the tape is empty", 0, isles.count(6));
        Check.feed(isles, "palm;");
        is("a FAULT", 1, isles.sea(5));
        is("the tape is empty then too", 0, isles.count(6));
        Check.feed(isles, "speed 12;");
        is("a NUMBER ends with n", 1, isles.sea(7));
        Check.feed(isles, "palm;");
        is("no bytes", 0, isles.sea(0));
        is("are a SEA without ISLES", 0, isles.count(0));
        is("and empty the tape", 0, isles.count(6));
        is("no bytes of none", 0, isles.sea(0));
        of("Promise 3", "IllegalArgumentException: the tape has not so many, n below 0 (nothing changes).");
        Check.feed(isles, "palm;");
        isles.sea(5);
        Check.feed(isles, "name a 0 0;");
        int[] due = counts(isles);
        int place = isles.fault();
        for (int n : new int[] {21, 700, 701, MAX, -1, MIN}) {
            check.illegal("sea " + n, () -> isles.sea(n));
        }
        same("counts", due, counts(isles));
        is("the FAULT's place", place, isles.fault());
        is("all that it has", 0, isles.sea(20));
        check.illegal("one of an empty tape", () -> isles.sea(1));
        is("the SEA stays", 1, isles.count(0));
    }

    private void seaAllStays() {
        of("Promise 3", "0, or the FAULT (all stays).");
        BarterIsles isles = told("name a 1 2 north;name bbb 3 4;wish 0 1;fair 1 0 1;speed 7;law debt<9;");
        isles.swap(0, 1);
        isles.year();
        isles.see(1, 0);
        isles.image();
        int[] due = state(isles);
        is("a FAULT at the end of all", 1,
            Check.tell(isles, "name cc 9 9;name d 9 9;name e 9 9;wish 0 2;wish 1 0;fair 0 0 2;speed 2;law 0;$"));
        same("state", due, state(isles));
        is("ISLES", 2, isles.count(0));
        is("FAIRS", 1, isles.count(1));
        is("SPEED", 7, isles.count(2));
        is("letters", 3, isles.name(1, 0));
        is("letter", 1, isles.letter(0, 0));
        is("x", 1, isles.name(0, 1));
        is("y", 2, isles.name(0, 2));
        is("SORT", 2, isles.name(0, 3));
        check.yes("WISHES", isles.prefers(0, 1, 0));
        check.no("WISHES of 1", isles.prefers(1, 1, 0));
        check.yes("the LAW", isles.may(0, 1));
        is("the FAIR of YEAR 1", 1, isles.year());
        check.yes("the image", isles.restore());
        same("state again", due, state(isles));
        is("ACTS", 1, isles.undo());
    }

    private void seaAllAnew() {
        of("Promise 3", "ACTS, what is SEEN, rows that are kept, the image are gone (STATUS stays).");
        BarterIsles isles = told("name a 0 0;name bbb 0 0;name cc 0 0;wish 0 1;fair 1 0 1;speed 7;law debt<9;");
        isles.swap(0, 1);
        isles.swap(0, 0);
        isles.year();
        for (int i = 0; i < 9; i++) {
            isles.see(1, 0);
        }
        isles.image();
        Check.tell(isles, "palm;");
        isles.sales(2, NONE);
        isles.swaps(row(1, 0, 2), 0);
        is("the same SEA without a plan", 0, Check.tell(isles, "name a 0 0;name bbb 0 0;name cc 0 0;"));
        same("counts", new int[] {3, 0, 3, 0, 0, 0, 0, 1, 1, 1, 3}, counts(isles));
        same("state", new int[15], zeroed(state(isles)));
        is("no ACT", NONE, isles.undo());
        check.no("no image", isles.restore());
        check.no("no WISHES", isles.prefers(0, 1, 0));
        is("rows from the new beginning", 9, isles.sales(2, NONE));
        is("SWAPS from the new beginning", 1, isles.swaps(row(1, 0, 2), 0));
        is("the YEAR", 0, isles.count(3));
        is("no LAW", 0, Check.tell(isles, TWO + "law 0;"));
        is("again", 0, Check.tell(isles, TWO));
        check.yes("the LAW is gone", isles.may(0, 1));
        String most = TWO + "law 0" + "+0".repeat(330);
        for (int i = 0; i < 3; i++) {
            is("a LAW as long as can be", 0, Check.tell(isles, most + ";"));
            check.no("of noughts", isles.may(0, 1));
            is("and another one", 0, Check.tell(isles, most + "+1;"));
            check.yes("with a 1 at its end", isles.may(0, 1));
        }
    }

    /** Without which NAME which ISLE has: these are not 0. */
    private static int[] zeroed(int[] state) {
        for (int i = 0; i < 3; i++) {
            state[3 + i] -= i;
        }
        return state;
    }

    private void faultPlace() {
        of("Promise 4", "The place of the latest sea()'s FAULT");
        BarterIsles isles = new BarterIsles();
        Check.tell(isles, "palm;");
        is("the first byte", 0, isles.fault());
        Check.tell(isles, "speed 1");
        is("the text's length", 7, isles.fault());
        Check.tell(isles, " ".repeat(699) + ")");
        is("the last byte", 699, isles.fault());
        Check.tell(isles, " ".repeat(698) + "la");
        is("the last word", 698, isles.fault());
        check.illegal("a sea() that throws is none", () -> isles.sea(1));
        is("so it stays", 698, isles.fault());
        of("Promise 4", "NONE without.");
        is("of a new object", NONE, new BarterIsles().fault());
        is("a text without", 0, Check.tell(isles, "speed 1;"));
        is("behind it", NONE, isles.fault());
        is("an empty one", 0, isles.sea(0));
        is("behind that", NONE, isles.fault());
    }

    private void count() {
        of("Promise 5", "0 ISLES, 1 FAIRS, 2 SPEED, 3 the YEAR, 4 ACTS that are kept, 5 SEEN, 6 bytes of the tape, 7 to 9 STATUS 0 to 2");
        BarterIsles isles = told("name a 0 0;name b 0 0;name c 0 0;fair 0 0 1;fair 9 1 2;speed 8;");
        for (int i = 0; i < 50; i++) {
            isles.year();
        }
        for (int i = 0; i < 11; i++) {
            isles.see(0, 0);
        }
        isles.swap(1, 1);
        isles.swap(2, 2);
        Check.tell(isles, "palm;");
        Check.feed(isles, "palm;");
        // 0 and 1 have swapped, then 1 and 2: none has its own.
        same("counts", new int[] {3, 2, 8, 50, 40, 8, 20, 1, 2, 3, 0}, counts(isles));
        of("Promise 5", "10 how many ISLES have the NAME that they had at first");
        BarterIsles eight = told(EIGHT);
        is("all", 8, eight.count(10));
        eight.swap(0, 7);
        is("but two", 6, eight.count(10));
        eight.swap(7, 3);
        is("but three", 5, eight.count(10));
        is("none without ISLES", 0, new BarterIsles().count(10));
        of("Promise 5", "NoSuchElementException: another what.");
        for (int what : new int[] {11, 12, MAX, -1, MIN}) {
            check.noSuch("count " + what, () -> isles.count(what));
            check.noSuch("new count " + what, () -> new BarterIsles().count(what));
        }
    }
}
