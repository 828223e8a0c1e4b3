/** Promises 1 to 5: a new object, feed, sea, fault, count; the text's faults. */
public final class TextTest {
    private static final Check CHECK = new Check("TextTest");

    public static void main(String[] args) {
        newObject();
        tape();
        seas();
        faultsOfLines();
        faultsOfNumbers();
        faultsOfWhatWasTold();
        faultsOfLaws();
        tooMuch();
        ends();
        whatStays();
        counts();
        CHECK.end();
    }

    private static void fault(String text, int kind, int place) {
        BarterIsles isles = new BarterIsles();
        CHECK.is(text, kind, Check.tell(isles, text));
        CHECK.is("place of " + text, place, isles.fault());
        CHECK.is("STATUS of " + text, kind == 0 ? 0 : 1, isles.count(7));
    }

    private static void fine(String text) {
        fault(text, 0, -1);
    }

    private static void newObject() {
        BarterIsles isles = new BarterIsles();
        int[] due = {0, 0, 3, 0, 0, 0, 0, 0, 0, 0, 0};
        for (int what = 0; what < due.length; what++) {
            CHECK.is("new count " + what, due[what], isles.count(what));
        }
        CHECK.is("new fault", -1, isles.fault());
        CHECK.noSuch("new has", () -> isles.has(0));
        CHECK.is("NONE", -1, BarterIsles.NONE);
    }

    private static void tape() {
        BarterIsles isles = new BarterIsles();
        for (int i = 1; i <= 35; i++) {
            CHECK.is("feed " + i, 20 * i, isles.feed(-1, 0, 1, 2, 3));
        }
        CHECK.is("feed 36", -1, isles.feed(1, 2, 3, 4, 5));
        CHECK.is("bytes", 700, isles.count(6));
        CHECK.illegal("sea 701", () -> isles.sea(701));
        CHECK.illegal("sea -1", () -> isles.sea(-1));
        CHECK.is("bytes stay", 700, isles.count(6));
        CHECK.is("STATUS stays", 0, isles.count(7));
        CHECK.is("a byte 255 is no token", 1, isles.sea(700));
        CHECK.is("its place", 0, isles.fault());
        CHECK.is("the tape is empty", 0, isles.count(6));
        CHECK.is("the highest byte comes first", 20, isles.feed(0x6e616d65, 0x20612030, 0x20303b20, 0x20202020, 0x20202020));
        CHECK.is("sea of it", 0, isles.sea(11));
        CHECK.is("isles of it", 1, isles.count(0));
        CHECK.is("the rest is gone too", 0, isles.count(6));
    }

    private static void seas() {
        fine("");
        fine("   \n ");
        fine("name name 0 60 colony;name law 60 0;");
        fine("name\na 0 0north;");
        fine("namea 0 0;".replace("namea", "name a"));
        fine("name a0 0;");
        fine("name a 0000 0060;");
        fine("name abcdefghi 0 0;");
        fine("name a 0 0;name b 0 0;wish 1 1 0;fair 200 1 0;speed 9;law 1;");
        fine("law not not not not not not 1;");
        fine("law (((((1)))));");
        fine("law not (not not not not not not 1) and not 1;");
        fine("law 1<2 and 3=4 or not 5*6/7-8+9<(1<2);");
        fine("law mine+yours+far+sort+other+debt+year;");
        BarterIsles isles = Check.told("name a 0 0;");
        CHECK.is("an empty text is a sea", 0, isles.sea(0));
        CHECK.is("without isles", 0, isles.count(0));
    }

    private static void faultsOfLines() {
        fault("palm;", 1, 0);
        fault(" ;", 1, 1);
        fault("5;", 1, 0);
        fault("namea 0 0;", 1, 0);
        fault("Name a 0 0;", 1, 0);
        fault("name a 0 0", 1, 10);
        fault("name a 0 0  ", 1, 12);
        fault("name", 1, 4);
        fault("name 5 0 0;", 1, 5);
        fault("name 12345 0 0;", 1, 5);
        fault("name a b 0;", 1, 7);
        fault("name a 0;", 1, 8);
        fault("name a 0 0 south;", 1, 11);
        fault("name a 0 0 colony north;", 1, 18);
        fault("name a 0 0 5;", 1, 11);
        fault("name a\t0 0;", 1, 6);
        fault("name a 0 0;;", 1, 11);
        fault("wish;", 1, 4);
        fault("name a 0 0;wish 0;", 1, 17);
        fault("name a 0 0;wish a 0;", 1, 16);
        fault("name a 0 0;wish 0 0 a;", 1, 20);
        fault("name a 0 0;fair 0 0;", 1, 19);
        fault("speed;", 1, 5);
        fault("speed 1 2;", 1, 8);
        fault("name \u00e9 0 0;", 1, 5);
        fault("name a -1 0;", 1, 7);
        fault("name a 0 0$", 1, 10);
        fault("game a 0 0;", 1, 0);
        fault("names a 0 0;", 1, 0);
        fault("nam a 0 0;", 1, 0);
        fault("name a 0 0 forth;", 1, 11);
        fault("law nine;", 3, 4);
        fault("law 1 hand 1;", 1, 6);
        fault("law 1 er 1;", 1, 6);
    }

    private static void faultsOfNumbers() {
        fault("name a 61 0;", 2, 7);
        fault("name a 0 61;", 2, 9);
        fault("name a 00000 0;", 2, 7);
        fault("speed 0;", 2, 6);
        fault("speed 10;", 2, 6);
        fault("speed 00001;", 2, 6);
        fault("fair 201 0 1;", 2, 5);
        fault("fair 200 0 1;", 3, 9);
        fault("wish 00000 0;", 2, 5);
        fault("law 12345;", 2, 4);
        fine("law 9999;");
        fault("name abcdefghij 0 0;", 2, 5);
        fault("law abcdefghij;", 3, 4);
    }

    private static void faultsOfWhatWasTold() {
        fault("name a 0 0;name b 0 0;name a 0 0;", 4, 27);
        fine("name a 0 0;name aa 0 0;name b 0 0;");
        fault("wish 0 0;", 3, 5);
        fault("wish 9999 0;", 3, 5);
        fault("name a 0 0;wish 1 0;", 3, 16);
        fault("name a 0 0;wish 0 1;", 3, 18);
        fault("name a 0 0;wish 0 0 0;", 4, 20);
        fault("name a 0 0;wish 0 0;wish 0 0;", 5, 25);
        fine("name a 0 0;name b 0 0;wish 0 0;wish 1 0;");
        fault("name a 0 0;fair 0 1 0;", 3, 18);
        fault("name a 0 0;fair 0 0 1;", 3, 20);
        fault("name a 0 0;fair 0 0 0;", 4, 20);
        fault("speed 1;speed 2;", 5, 8);
        fault("speed 1;speed;", 5, 8);
        fault("law 1;law 2;", 5, 6);
    }

    private static void faultsOfLaws() {
        fault("law;", 1, 3);
        fault("law", 1, 3);
        fault("law word;", 3, 4);
        fault("law and;", 3, 4);
        fault("law 1+not 1;", 3, 6);
        fault("law 1<not 1;", 3, 6);
        fault("law name;", 3, 4);
        fault("law 1 mine;", 1, 6);
        fault("law 1 12345;", 1, 6);
        fault("law 1<2<3;", 1, 7);
        fault("law 1=2<3;", 1, 7);
        fault("law 1 not 2;", 1, 6);
        fault("law (1;", 1, 6);
        fault("law (1", 1, 6);
        fault("law 1);", 1, 5);
        fault("law ();", 1, 5);
        fault("law 1+;", 1, 6);
        fault("law 1+*2;", 1, 6);
        fault("law -1;", 1, 4);
        fault("law 1 or;", 1, 8);
        fault("law not;", 1, 7);
        fault("law not not not not not not not 1;", 2, 28);
        fault("law 1 and not not not not not not not 1;", 2, 34);
        fault("law ((((((1))))));", 2, 10);
        fault("law ((((((word))))));", 2, 10);
        fault("law ((((((not 1))))));", 2, 10);
        fault("law (((((((1)))))));", 2, 10);
        fault("law (((((());", 1, 10);
        fault("law ((((((+", 1, 10);
        fault("law ((((((", 1, 10);
        fault("law (((((12345)))));", 2, 9);
    }

    private static void tooMuch() {
        StringBuilder eight = new StringBuilder();
        for (char c = 'a'; c < 'i'; c++) {
            eight.append("name ").append(c).append(" 0 0;");
        }
        fine(eight.toString());
        fault(eight + "name i 0 0;", 2, eight.length());
        fault(eight + "name", 2, eight.length());
        fine(eight + "wish 7 7 6 5 4 3 2 1 0;");
        fault(eight + "wish 7 7 6 5 4 3 2 1 0 0;", 4, eight.length() + 23);
        fault(eight + "wish 8 0;", 3, eight.length() + 5);
        String fairs = "name a 0 0;name b 0 0;" + "fair 0 0 1;".repeat(12);
        fine(fairs);
        fault(fairs + "fair", 2, fairs.length());
        String long700 = "law 1" + "+1".repeat(347) + ";";
        CHECK.is("700 bytes", 700, long700.length());
        fine(long700);
    }

    private static void ends() {
        BarterIsles isles = new BarterIsles();
        Check.feed(isles, "speed 12;");
        CHECK.is("only n bytes are read", 1, isles.sea(7));
        CHECK.is("to their end", 7, isles.fault());
        Check.feed(isles, "speed 1;palm;");
        CHECK.is("what is behind n counts for nothing", 0, isles.sea(8));
        CHECK.is("no fault any more", -1, isles.fault());
        CHECK.is("refused texts", 1, isles.count(7));
    }

    private static void whatStays() {
        BarterIsles isles = Check.told("name a 0 0;name bb 0 0;fair 0 0 1;speed 7;law 1;");
        isles.swap(0, 1);
        isles.see(0, 1);
        isles.image();
        CHECK.is("a fault", 1, Check.tell(isles, "name c 0 0;name d 0 0;name e 0 0;speed 2;law 0"));
        CHECK.is("isles stay", 2, isles.count(0));
        CHECK.is("speed stays", 7, isles.count(2));
        CHECK.is("names stay", 1, isles.has(0));
        CHECK.is("letters stay", 2, isles.letter(1, 0));
        CHECK.is("debts stay", 1, isles.debt(0, 1));
        CHECK.is("acts stay", 1, isles.count(4));
        CHECK.is("seen stays", 1, isles.count(5));
        CHECK.yes("the law stays", isles.may(0, 1));
        CHECK.yes("the image stays", isles.restore());
        isles.swap(1, 1);
        CHECK.is("a sea", 0, Check.tell(isles, "name c 0 0;name d 0 0;"));
        CHECK.is("names anew", 0, isles.has(0));
        CHECK.is("debts anew", 0, isles.debt(0, 1));
        CHECK.is("year anew", 0, isles.count(3));
        CHECK.is("fairs anew", 0, isles.count(1));
        CHECK.is("speed anew", 3, isles.count(2));
        CHECK.is("acts gone", 0, isles.count(4));
        CHECK.is("nothing to undo", -1, isles.undo());
        CHECK.is("seen gone", 0, isles.count(5));
        CHECK.no("image gone", isles.restore());
        CHECK.is("STATUS of texts stays", 1, isles.count(7));
        CHECK.is("STATUS of acts stays", 1, isles.count(8));
        CHECK.is("a law", 0, Check.tell(isles, "name c 0 0;name d 0 0;law 0;"));
        CHECK.no("holds", isles.may(0, 1));
        CHECK.is("no law", 0, Check.tell(isles, "name c 0 0;name d 0 0;"));
        CHECK.yes("is gone", isles.may(0, 1));
    }

    private static void counts() {
        BarterIsles isles = Check.told("name a 0 0;name bb 0 0;name c 0 0;fair 0 0 1;fair 9 1 2;speed 7;");
        isles.year();
        isles.see(1, 1);
        isles.see(1, 1);
        Check.feed(isles, "x");
        for (int i = 0; i < 7; i++) {
            isles.see(0, 0);
        }
        isles.swap(0, 0);
        isles.swap(1, 1);
        int[] due = {3, 2, 7, 1, 1, 8, 20, 0, 2, 1, 1};
        for (int what = 0; what < due.length; what++) {
            CHECK.is("count " + what, due[what], isles.count(what));
        }
        CHECK.noSuch("count 11", () -> isles.count(11));
        CHECK.noSuch("count -1", () -> isles.count(-1));
    }
}
