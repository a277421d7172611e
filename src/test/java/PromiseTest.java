/** Every promise by hand: ordinary inputs, the edges that the document names, wrong inputs. */
public final class PromiseTest extends Sentences {
    private static void dueFault(String text, int number, int letter) {
        CardBecome x = new CardBecome();
        due("table() of \"" + text + "\"", lay(x, text), -10 - number);
        due("fault() of \"" + text + "\"", x.fault(), letter);
        due("told(5) of \"" + text + "\"", x.told(5), 0);
        due("told(0) of \"" + text + "\"", x.told(0), NONE);
    }

    public static void main(String[] args) {
        newObject();
        feed();
        table();
        tableOfBlanks();
        tableFaults();
        fault();
        told();
        card();
        pack();
        person();
        logged();
        drawOne();
        getBack();
        meet();
        force();
        shuffle();
        drawer();
        out();
        drift();
        undo();
        beats();
        rings();
        order();
        row();
        tells();
        odds();
        back();
        missing();
        wanted();
        see();
        deals();
        ask();
        write();
        tear();
        judge();
        seed();
        keep();
        goBack();
        end();
    }

    private static void newObject() {
        about("1 a new object");
        CardBecome x = new CardBecome();
        int[] told = {NONE, 0, 0, 0, 0, 0, 0, 0, 0, NONE, 0, 1023, 0, 0, 0};
        for (int what = 0; what < told.length; what++) {
            due("told(" + what + ")", x.told(what), told[what]);
        }
        due("fault()", x.fault(), NONE);
        due("pack(0)", x.pack(0), NONE);
        due("logged(0, 0)", x.logged(0, 0), NONE);
        due("person(0, 0)", x.person(0, 0), UNKNOWN);
        due("card(0, 0)", x.card(0, 0), UNKNOWN);
        due("drawOne(0)", x.drawOne(0), UNKNOWN);
        due("order(0)", x.order(0), 0);
        due("order(1)", x.order(1), UNKNOWN);
        due("rings(NONE)", x.rings(NONE), 0);
        due("tells()", x.tells(), NONE);
        due("deals(5, NONE)", x.deals(5, NONE), 1);
        due("ask(5)", x.ask(5), NONE);
        due("wanted(1)", x.wanted(1), NONE);
        due("judge()", x.judge(), NONE);
        due("tear()", x.tear(), 0);
        due("seed(0)", x.seed(0), 0);
    }

    private static void feed() {
        about("2 feed");
        CardBecome x = new CardBecome();
        due("feed(0)", x.feed(0), 1);
        due("feed(255)", x.feed(255), 2);
        due("feed(-1)", x.feed(-1), OUTSIDE);
        due("feed(256)", x.feed(256), OUTSIDE);
        due("told(5)", x.told(5), 2);
        for (int i = 3; i <= 240; i++) {
            due("feed(32)", x.feed(32), i);
        }
        due("feed(32) on 240", x.feed(32), FULL);
        due("feed(256) on 240", x.feed(256), OUTSIDE);
        due("told(5)", x.told(5), 240);
        x.table();
        due("feed(32) after table()", x.feed(32), 1);
    }

    private static void table() {
        about("3 table");
        CardBecome x = new CardBecome();
        due("table() of nothing", x.table(), 0);
        due("told(0)", x.told(0), NONE);
        due("table()", lay(x, SEVEN), 4);
        due("told(5)", x.told(5), 0);
        x.drawOne(0);
        x.drawOne(1);
        x.drawer(1);
        x.meet(0, 1);
        x.seed(77);
        x.see(0, 1, 0);
        x.write(0, 0);
        x.keep(0);
        x.drawOne(2);
        due("table() with a fault", lay(x, "x"), -11);
        due("after it person(0, 0)", x.person(0, 0), 0);
        due("after it told(12)", x.told(12), 1);
        due("after it told(13)", x.told(13), 1);
        due("after it told(14)", x.told(14), 1);
        due("after it told(10)", x.told(10), 1);
        due("after it goBack(0)", x.goBack(0), 1);
        x.drawOne(2);
        due("table() again", lay(x, " r 4 1 0 ; c 013 003 ; p ; c1 0;p;"), 2);
        int[] told = {4, 1, 0, 2, 2, 0, 2, 0, 0, NONE, 0, 1023, 0, 0, 0};
        for (int what = 0; what < told.length; what++) {
            due("told(" + what + ")", x.told(what), told[what]);
        }
        due("goBack(0) of an image that is gone", x.goBack(0), NOT);
        due("person(0, 1)", x.person(0, 1), 0);
        due("card(0, 0)", x.card(0, 0), 13);
        due("card(0, 1)", x.card(0, 1), 3);
        due("seed(0): it stayed", x.seed(0), 77);
        due("table() of rules alone", lay(x, "r0 0 0;"), 0);
        due("shuffle(0) at an empty table", x.shuffle(0), NONE);
        due("table() of nothing", x.table(), 0);
        due("shuffle(0) without one", x.shuffle(0), NOT);
        due("told(0)", x.told(0), NONE);
        due("told(3)", x.told(3), 0);
        due("told(14)", x.told(14), 0);
        lay(x, "r3 1 1;c1 1;p;");
        due("told(1)", x.told(1), 1);
        due("told(2)", x.told(2), 1);
        x.table();
        due("told(1) without a table", x.told(1), 0);
        due("told(2) without a table", x.told(2), 0);
        due("card(0, 0) without a table", x.card(0, 0), UNKNOWN);
    }

    private static void tableOfBlanks() {
        about("3 table, blanks alone");
        for (int blanks = 1; blanks <= 240; blanks++) {
            CardBecome x = with(SEVEN);
            x.drawOne(0);
            x.meet(0, 1);
            x.see(0, 1, 0);
            x.write(0, 0);
            x.keep(1);
            x.drawOne(1);
            x.seed(5);
            String what = " after " + blanks + " blanks";
            due("table()" + what, lay(x, " ".repeat(blanks)), 0);
            due("fault()" + what, x.fault(), NONE);
            int[] told = {NONE, 0, 0, 0, 0, 0, 0, 0, 0, NONE, 0, 1023, 0, 0, 0};
            for (int i = 0; i < told.length; i++) {
                due("told(" + i + ")" + what, x.told(i), told[i]);
            }
            due("shuffle(0)" + what, x.shuffle(0), NOT);
            due("person(0, 0)" + what, x.person(0, 0), UNKNOWN);
            due("goBack(1)" + what, x.goBack(1), NOT);
            due("seed(0)" + what, x.seed(0), 5);
        }
        CardBecome x = new CardBecome();
        lay(x, "x");
        due("table() of a blank behind a fault", lay(x, " "), 0);
        due("fault() of a blank behind a fault", x.fault(), NONE);
        due("table() of a text behind blanks", lay(x, "  r0 0 0;p;"), 1);
    }

    private static void tableFaults() {
        about("3 table, faults");
        String r = "r0 0 0;";
        dueFault("c1 1;", 1, 0);
        dueFault("p;", 1, 0);
        dueFault(";", 1, 0);
        dueFault("7", 1, 0);
        dueFault("12345", 1, 0);
        dueFault("R0 0 0;", 1, 0);
        dueFault("  x", 1, 2);
        dueFault("r", 1, 1);
        dueFault("r0", 1, 2);
        dueFault("r0 ", 1, 3);
        dueFault("r000;", 1, 4);
        dueFault("r0 0 0", 1, 6);
        dueFault("r0 0;", 1, 4);
        dueFault("r0 0 0 0;", 1, 7);
        dueFault("r;", 1, 1);
        dueFault("r r", 1, 2);
        dueFault(r + "x", 1, 7);
        dueFault(r + ";", 1, 7);
        dueFault(r + "1234", 1, 7);
        dueFault(r + "p", 1, 8);
        dueFault(r + "pp", 1, 8);
        dueFault(r + "p1234;", 1, 8);
        dueFault(r + "c", 1, 8);
        dueFault(r + "c1;", 1, 9);
        dueFault(r + "c1 1 1;", 1, 12);
        dueFault(r + "c1 1c", 1, 11);
        dueFault(r + "p" + (char) 9 + ";", 1, 8);
        dueFault(r + "p" + (char) 0 + ";", 1, 8);
        dueFault("r5 0 0;", 2, 1);
        dueFault("r 5 9 9;", 2, 2);
        dueFault("r0 2 0;", 2, 3);
        dueFault("r0 0 2;", 2, 5);
        dueFault("r0000 0 0;", 2, 1);
        dueFault("r0 0000 0;", 2, 3);
        dueFault("r4294967296 0 0;", 2, 1);
        dueFault(r + "c0 0;", 2, 8);
        dueFault(r + "c14 0;", 2, 8);
        dueFault(r + "c999 0;", 2, 8);
        dueFault(r + "c1 4;", 2, 10);
        dueFault(r + "c1 0001;", 2, 10);
        dueFault(r + "c0001x", 2, 8);
        dueFault(r + "r0 0 0;", 3, 7);
        dueFault(r + " r", 3, 8);
        dueFault(r + "p;p;p;p;p;p;p", 3, 19);
        dueFault(r + "p;p;p;p;p;p;p1", 3, 19);
        StringBuilder twelve = new StringBuilder(r);
        for (int i = 1; i <= 12; i++) {
            twelve.append("c").append(i).append(" 0;");
        }
        due("table() of twelve cards", lay(new CardBecome(), twelve.toString()), 0);
        dueFault(twelve + "c", 3, twelve.length());
        dueFault(twelve + "c1 0;", 3, twelve.length());
        dueFault(r + "c1 1;c1 1;", 4, 15);
        dueFault(r + "c1 1;c01  001", 4, 17);
        dueFault(r + "c1 1;c1 1 1", 4, 15);
        due("table() of cards of like rank", lay(new CardBecome(), r + "c1 1;c1 2;c2 1;p;"), 1);
        due("table() of six", lay(new CardBecome(), r + "p;p ; p;p;p;p;  "), 6);
    }

    private static void fault() {
        about("4 fault");
        CardBecome x = new CardBecome();
        due("fault() ahead of table()", x.fault(), NONE);
        lay(x, "r0 0 0;q");
        due("fault()", x.fault(), 7);
        x.feed('r');
        due("fault() while fed", x.fault(), 7);
        lay(x, "0 0 0;");
        due("fault() of a good text", x.fault(), NONE);
        lay(x, "r0");
        due("fault() at the end", x.fault(), 2);
        x.table();
        due("fault() of an empty text", x.fault(), NONE);
    }

    private static void told() {
        about("5 told");
        CardBecome x = with(SEVEN);
        drawAll(x);
        x.drawer(2);
        x.meet(0, 2);
        x.meet(0, 3);
        x.see(0, 1, 0);
        x.see(0, 1, 0);
        x.see(0, 1, 0);
        x.write(0, 0);
        x.feed('r');
        int[] told = {2, 0, 1, 7, 4, 1, 3, 4, 11, 3, 2, 2 + 16 + 32 + 128 + 512, 3, 1, 7};
        for (int what = 0; what < told.length; what++) {
            due("told(" + what + ")", x.told(what), told[what]);
        }
        due("told(15)", x.told(15), OUTSIDE);
        due("told(-1)", x.told(-1), OUTSIDE);
        CardBecome y = with("r4 1 0;c2 0;c2 1;p;p;");
        due("told(1)", y.told(1), 1);
        due("told(2)", y.told(2), 0);
        drawAll(y);
        due("told(9): nobody any", y.told(9), NONE);
        y.getBack(0);
        due("told(9)", y.told(9), 1);
        CardBecome falling = with("r4 0 0;c9 0;c8 0;c7 0;c6 0;p;p;p;p;");
        drawAll(falling);
        due("told(9): who beats most", falling.told(9), 0);
        falling.getBack(0);
        due("told(9): the next", falling.told(9), 1);
        CardBecome alike = with("r4 0 0;c9 0;c9 1;c7 0;p;p;p;");
        drawAll(alike);
        due("told(9): of like ones the least", alike.told(9), 0);
        heldRules();
    }

    private static void heldRules() {
        CardBecome x = with("r4 0 0;c2 0;c2 1;c5 1;p;p;p;");
        x.drawOne(0);
        x.meet(0, 1);
        due("told(11), one was itself", x.told(11), 1023);
        drawAll(x);
        x.meet(0, 1);
        due("told(11), neither won: no trump 0 or 1", x.told(11), 1023 - 15);
        x.meet(2, 1);
        due("told(11), the higher of like suits won", x.told(11), 16 + 64 + 256);
        CardBecome k = with("r4 1 1;c11 0;c2 0;p;p;");
        drawAll(k);
        k.meet(1, 0);
        due("told(11), knaves are as told", k.told(11), 1023);
    }

    private static void card() {
        about("6 card");
        CardBecome x = with(SEVEN);
        x.drawOne(2);
        x.drawOne(1);
        x.drawer(1);
        int[][] due = {{9, 1, NONE, 2, 0}, {11, 0, NONE, NONE, 1}, {13, 0, 0, NONE, 0}};
        for (int c = 0; c < due.length; c++) {
            for (int what = 0; what < 5; what++) {
                due("card(" + c + ", " + what + ")", x.card(c, what), due[c][what]);
            }
        }
        due("card(6, 2)", x.card(6, 2), 4);
        x.drawOne(0);
        due("card(2, 3)", x.card(2, 3), 0);
        due("card(2, 2)", x.card(2, 2), NONE);
        due("card(7, 0)", x.card(7, 0), UNKNOWN);
        due("card(-1, 0)", x.card(-1, 0), UNKNOWN);
        due("card(7, 5)", x.card(7, 5), UNKNOWN);
        due("card(0, 5)", x.card(0, 5), OUTSIDE);
        due("card(0, -1)", x.card(0, -1), OUTSIDE);
    }

    private static void pack() {
        about("7 pack");
        CardBecome x = with(SEVEN);
        duePack(x, "0 1 2 3 4 5 6");
        due("pack(7)", x.pack(7), NONE);
        due("pack(-1)", x.pack(-1), NONE);
        x.drawOne(0);
        due("pack(0)", x.pack(0), 1);
        due("pack(6)", x.pack(6), NONE);
        due("pack(2147483647)", x.pack(Integer.MAX_VALUE), NONE);
    }

    private static void person() {
        about("8 person");
        CardBecome x = with(SEVEN);
        due("person(0, 0)", x.person(0, 0), NONE);
        due("person(0, 2)", x.person(0, 2), 0);
        x.drawOne(0);
        x.drawOne(1);
        due("person(0, 2): who is itself", x.person(0, 2), 4 + 8);
        due("person(1, 2)", x.person(1, 2), 1 + 4 + 8);
        due("person(1, 0)", x.person(1, 0), 1);
        x.meet(1, 0);
        x.meet(0, 1);
        x.meet(0, 2);
        x.meet(2, 3);
        due("person(1, 1)", x.person(1, 1), 2);
        due("person(0, 1)", x.person(0, 1), 1);
        due("person(2, 1)", x.person(2, 1), 0);
        due("person(4, 0)", x.person(4, 0), UNKNOWN);
        due("person(-1, 0)", x.person(-1, 0), UNKNOWN);
        due("person(4, 3)", x.person(4, 3), UNKNOWN);
        due("person(0, 3)", x.person(0, 3), OUTSIDE);
        due("person(0, -1)", x.person(0, -1), OUTSIDE);
    }

    private static void logged() {
        about("9 logged");
        CardBecome x = with(SEVEN);
        x.drawOne(0);
        x.meet(3, 0);
        x.meet(1, 2);
        x.getBack(0);
        due("logged(0, 0)", x.logged(0, 0), 1);
        due("logged(0, 1)", x.logged(0, 1), 2);
        due("logged(0, 2)", x.logged(0, 2), NONE);
        due("logged(1, 0)", x.logged(1, 0), 3);
        due("logged(1, 1)", x.logged(1, 1), 0);
        due("logged(1, 2), who is itself by now", x.logged(1, 2), 0);
        due("logged(2, 0)", x.logged(2, 0), NONE);
        due("logged(-1, 0)", x.logged(-1, 0), NONE);
        due("logged(0, 3)", x.logged(0, 3), OUTSIDE);
        due("logged(9, -1)", x.logged(9, -1), OUTSIDE);
        for (int i = 0; i < 23; i++) {
            x.meet(i % 3, 3);
        }
        due("told(10)", x.told(10), 24);
        due("logged(23, 0)", x.logged(23, 0), 1);
        due("logged(23, 1)", x.logged(23, 1), 2);
        x.meet(2, 0);
        due("told(10)", x.told(10), 24);
        due("logged(0, 0)", x.logged(0, 0), 2);
        due("logged(23, 0): the oldest is lost", x.logged(23, 0), 0);
        due("logged(23, 1)", x.logged(23, 1), 3);
        due("logged(24, 0)", x.logged(24, 0), NONE);
        due("logged(1, 0)", x.logged(1, 0), 1);
        due("logged(1, 1)", x.logged(1, 1), 3);
        x.undo();
        due("logged(0, 0) after undo()", x.logged(0, 0), 1);
        due("logged(23, 0): the oldest is there again", x.logged(23, 0), 1);
        due("logged(23, 1)", x.logged(23, 1), 2);
    }

    private static void drawOne() {
        about("10 drawOne");
        CardBecome x = with("r0 0 0;c3 0;c4 0;p;p;p;");
        due("drawOne(1)", x.drawOne(1), 0);
        due("drawOne(1) of one who is a card", x.drawOne(1), NOT);
        due("told(14): a refusal can not be undone", x.told(14), 1);
        due("drawOne(0)", x.drawOne(0), 1);
        due("drawOne(2) of an empty pack", x.drawOne(2), NOT);
        due("drawOne(3)", x.drawOne(3), UNKNOWN);
        due("drawOne(-1)", x.drawOne(-1), UNKNOWN);
        due("person(1, 0)", x.person(1, 0), 0);
        due("told(6)", x.told(6), 0);
        due("told(8)", x.told(8), 3);
    }

    private static void getBack() {
        about("11 getBack");
        CardBecome x = with(SEVEN);
        due("getBack(0)", x.getBack(0), NOT);
        x.drawOne(0);
        x.drawOne(1);
        due("getBack(0)", x.getBack(0), 0);
        duePack(x, "2 3 4 5 6 0");
        due("person(0, 0)", x.person(0, 0), NONE);
        due("getBack(0) again", x.getBack(0), NOT);
        due("getBack(4)", x.getBack(4), UNKNOWN);
        due("getBack(-1)", x.getBack(-1), UNKNOWN);
        due("told(14)", x.told(14), 3);
        CardBecome empty = with("r0 0 0;c5 1;p;");
        empty.drawOne(0);
        due("getBack(0) to an empty pack", empty.getBack(0), 0);
        duePack(empty, "0");
    }

    private static void meet() {
        about("12 meet");
        CardBecome x = with("r4 0 0;c5 0;c5 1;c6 1;p;p;p;p;");
        due("meet of two who are themselves", x.meet(0, 1), NONE);
        drawAll(x);
        due("meet of like ranks", x.meet(0, 1), NONE);
        due("meet(0, 2)", x.meet(0, 2), 2);
        due("meet(2, 0)", x.meet(2, 0), 2);
        due("meet(3, 0)", x.meet(3, 0), 0);
        due("meet(0, 0)", x.meet(0, 0), UNKNOWN);
        due("meet(0, 4)", x.meet(0, 4), UNKNOWN);
        due("meet(-1, 0)", x.meet(-1, 0), UNKNOWN);
        due("told(10)", x.told(10), 5);
        due("person(2, 1)", x.person(2, 1), 2);
        due("person(0, 1)", x.person(0, 1), 1);
        due("told(14)", x.told(14), 8);
    }

    private static void force() {
        about("13 force");
        CardBecome x = with(SEVEN);
        due("force(3)", x.force(3), 3);
        duePack(x, "3 0 1 2 4 5 6");
        due("force(3) of the top", x.force(3), 0);
        due("told(14)", x.told(14), 2);
        due("force(6)", x.force(6), 6);
        duePack(x, "6 3 0 1 2 4 5");
        x.drawOne(0);
        due("force(6) of what somebody is", x.force(6), NOT);
        x.drawer(0);
        due("force(6) of what is in a drawer", x.force(6), NOT);
        due("force(7)", x.force(7), UNKNOWN);
        due("force(-1)", x.force(-1), UNKNOWN);
    }

    private static void shuffle() {
        about("14 shuffle");
        CardBecome x = with(SEVEN);
        due("shuffle(0)", x.shuffle(0), 3);
        duePack(x, "3 0 4 1 5 2 6");
        due("shuffle(1)", x.shuffle(1), 6);
        duePack(x, "6 2 5 1 4 0 3");
        due("shuffle(2)", x.shuffle(2), 2);
        duePack(x, "2 5 1 4 0 3 6");
        x.drawOne(0);
        due("shuffle(0) of six", x.shuffle(0), 0);
        duePack(x, "0 5 3 1 6 4");
        due("shuffle(3)", x.shuffle(3), OUTSIDE);
        due("shuffle(-1)", x.shuffle(-1), OUTSIDE);
        CardBecome one = with("r0 0 0;c4 1;p;");
        for (int k = 0; k < 3; k++) {
            due("shuffle(" + k + ") of one card", one.shuffle(k), 0);
        }
        one.drawOne(0);
        for (int k = 0; k < 3; k++) {
            due("shuffle(" + k + ") of none", one.shuffle(k), NONE);
        }
        due("told(14)", one.told(14), 7);
        CardBecome twelve = with("r0 0 0;c1 0;c2 0;c3 0;c4 0;c5 0;c6 0;c7 0;c8 0;c9 0;c10 0;c11 0;c12 0;p;");
        twelve.shuffle(0);
        duePack(twelve, "6 0 7 1 8 2 9 3 10 4 11 5");
        twelve.shuffle(2);
        duePack(twelve, "0 7 1 8 2 9 3 10 4 11 5 6");
        twelve.shuffle(1);
        duePack(twelve, "6 5 11 4 10 3 9 2 8 1 7 0");
        CardBecome none = new CardBecome();
        due("shuffle(2) without a table", none.shuffle(2), NOT);
        due("shuffle(3) without a table", none.shuffle(3), OUTSIDE);
    }

    private static void drawer() {
        about("15 drawer");
        CardBecome x = with(SEVEN);
        due("drawer(0) of one who is itself", x.drawer(0), NOT);
        x.drawOne(0);
        x.drawOne(1);
        due("drawer(1)", x.drawer(1), 1);
        due("person(1, 0)", x.person(1, 0), NONE);
        due("told(7)", x.told(7), 2);
        due("told(6)", x.told(6), 5);
        due("told(8)", x.told(8), 1);
        due("drawer(1) again", x.drawer(1), NOT);
        due("drawer(4)", x.drawer(4), UNKNOWN);
        due("drawer(-1)", x.drawer(-1), UNKNOWN);
        due("drawOne(1) by one with a drawer", x.drawOne(1), 2);
        due("drawer(1) of a second card", x.drawer(1), 2);
        due("told(7)", x.told(7), 6);
    }

    private static void out() {
        about("16 out");
        CardBecome x = with(SEVEN);
        due("out(0) of the pack", x.out(0), NOT);
        x.drawOne(0);
        due("out(0) of who is it", x.out(0), NOT);
        x.drawer(0);
        due("out(0)", x.out(0), 7);
        duePack(x, "1 2 3 4 5 6 0");
        due("told(7)", x.told(7), 0);
        due("card(0, 4)", x.card(0, 4), 0);
        due("out(0) again", x.out(0), NOT);
        due("out(7)", x.out(7), UNKNOWN);
        due("out(-1)", x.out(-1), UNKNOWN);
        due("told(14)", x.told(14), 3);
    }

    private static void drift() {
        about("17 drift");
        CardBecome x = with(SEVEN);
        due("drift(0)", x.drift(0), OUTSIDE);
        due("drift(61)", x.drift(61), OUTSIDE);
        due("told(14)", x.told(14), 0);
        // By hand, from seed 0: 12345, 1406932606, 654583775, 1449466924, 229283573, 1109335178, 1051550459.
        // By 65536: 0, 21468, 9988, 22117, 3498, 16927, 16045.
        due("drift(1): 0 of 4, 21468 of 5 is 3: 0 meets 9988 of 4, the same", x.drift(1), 0);
        due("told(10)", x.told(10), 0);
        due("seed", x.seed(654583775), 654583775);
        due("drift(1): 22117 of 4 is 1, 3498 of 5 is 3: 1 meets 16927 of 4, 3", x.drift(1), 0);
        due("logged(0, 0)", x.logged(0, 0), 1);
        due("logged(0, 1)", x.logged(0, 1), 3);
        due("told(14): each drift can be undone", x.told(14), 2);
        driftByKinds();
        CardBecome y = with(SEVEN);
        due("drift(60)", y.drift(60) >= 0 ? 1 : 0, 1);
        due("told(14): one for all of it", y.told(14), 1);
        due("undo()", y.undo(), 0);
        duePack(y, "0 1 2 3 4 5 6");
        due("told(10)", y.told(10), 0);
        CardBecome nobody = with("r0 0 0;c1 1;c2 1;");
        nobody.seed(9);
        due("drift(60) without persons", nobody.drift(60), 0);
        due("seed is as it was", nobody.seed(0), 9);
        due("told(14)", nobody.told(14), 1);
        CardBecome none = new CardBecome();
        due("drift(1) without a table", none.drift(1), NOT);
        due("drift(0) without a table", none.drift(0), OUTSIDE);
    }

    /** Seeds by which the one step is of a kind that is known, for four persons. */
    private static void driftByKinds() {
        CardBecome x = with(SEVEN);
        x.seed(9);
        due("drift(1): 0 has drawn, by 0", x.drift(1), 1);
        due("person(0, 0)", x.person(0, 0), 0);
        x.seed(4);
        due("drift(1): 1 has drawn, by 1", x.drift(1), 3);
        due("person(1, 0)", x.person(1, 0), 1);
        x.seed(7);
        due("drift(1): 0 can not draw", x.drift(1), 3);
        duePack(x, "2 3 4 5 6");
        x.seed(20);
        due("drift(1): 2 has nothing to get back", x.drift(1), 3);
        x.seed(2);
        due("drift(1): 0 got back", x.drift(1), 2);
        duePack(x, "2 3 4 5 6 0");
        x.seed(30);
        due("drift(1): 1 met 0", x.drift(1), 2);
        due("logged(0, 0)", x.logged(0, 0), 1);
        due("logged(0, 1)", x.logged(0, 1), 0);
        due("logged(0, 2)", x.logged(0, 2), 1);
        due("person(1, 1)", x.person(1, 1), 1);
        x.seed(42);
        x.drift(1);
        due("told(10): 1 did not meet itself", x.told(10), 1);
        x.seed(25);
        due("drift(1): a riffle", x.drift(1), 2);
        duePack(x, "5 2 6 3 0 4");
        x.seed(10);
        due("drift(1): turned", x.drift(1), 2);
        duePack(x, "4 0 3 6 2 5");
        x.seed(8);
        due("drift(1): cut", x.drift(1), 2);
        duePack(x, "0 3 6 2 5 4");
        due("told(14)", x.told(14), 10);
    }

    private static void undo() {
        about("18 undo");
        CardBecome x = with(SEVEN);
        due("undo() of nothing", x.undo(), NOT);
        x.drawOne(0);
        x.drawOne(1);
        x.meet(0, 1);
        x.drawer(0);
        x.out(0);
        x.getBack(1);
        x.force(4);
        x.shuffle(0);
        x.drift(5);
        x.see(0, 1, 0);
        x.write(0, 0);
        int seed = x.seed(4);
        due("undo() of drift", x.undo(), 8);
        due("the seed stays", x.seed(seed), 4);
        duePack(x, "5 4 6 2 0 3 1");
        due("undo() of shuffle", x.undo(), 7);
        duePack(x, "4 2 3 5 6 0 1");
        due("undo() of force", x.undo(), 6);
        duePack(x, "2 3 4 5 6 0 1");
        due("undo() of getBack", x.undo(), 5);
        due("person(1, 0)", x.person(1, 0), 1);
        due("undo() of out", x.undo(), 4);
        due("told(7)", x.told(7), 1);
        due("undo() of drawer", x.undo(), 3);
        due("person(0, 0)", x.person(0, 0), 0);
        due("told(7)", x.told(7), 0);
        due("person(1, 1)", x.person(1, 1), 1);
        due("undo() of meet", x.undo(), 2);
        due("person(1, 1)", x.person(1, 1), 0);
        due("told(10)", x.told(10), 0);
        due("undo() of drawOne", x.undo(), 1);
        due("undo() of drawOne", x.undo(), 0);
        duePack(x, "0 1 2 3 4 5 6");
        due("undo() of nothing", x.undo(), NOT);
        due("told(12): what is seen stays", x.told(12), 1);
        due("told(13): the book stays", x.told(13), 1);
        sixteenAtMost(x);
    }

    private static void sixteenAtMost(CardBecome x) {
        for (int i = 0; i < 20; i++) {
            x.shuffle(2);
        }
        due("told(14)", x.told(14), 16);
        for (int i = 15; i >= 0; i--) {
            due("undo()", x.undo(), i);
        }
        due("undo() of what is lost", x.undo(), NOT);
        duePack(x, "4 5 6 0 1 2 3");
        x.shuffle(1);
        due("told(14)", x.told(14), 1);
    }

    private static void beats() {
        about("19 beats");
        CardBecome x = with(SEVEN);
        due("a trump, the first", x.beats(3, 2), 1);
        due("a trump, the second", x.beats(2, 3), 2);
        due("a knave of like suit", x.beats(1, 2), 1);
        due("a knave of like suit, the second", x.beats(2, 1), 2);
        due("a knave and the lower one", x.beats(1, 6), 1);
        due("higher", x.beats(2, 0), 1);
        due("lower", x.beats(0, 2), 2);
        due("like ranks", x.beats(0, 4), 0);
        due("the same", x.beats(0, 0), UNKNOWN);
        due("beats(0, 7)", x.beats(0, 7), UNKNOWN);
        due("beats(-1, 0)", x.beats(-1, 0), UNKNOWN);
        CardBecome low = with("r1 1 0;c11 0;c12 0;c2 0;c13 1;c3 1;c11 1;");
        due("the lower wins", low.beats(2, 1), 1);
        due("no knaves", low.beats(0, 2), 2);
        due("the lower of trumps", low.beats(3, 4), 2);
        due("a high trump", low.beats(3, 2), 1);
        CardBecome knaves = with("r1 1 1;c11 0;c12 0;c2 0;c13 1;c3 1;c11 1;c11 2;");
        due("a knave though the lower wins", knaves.beats(2, 0), 2);
        due("a knave of trumps", knaves.beats(5, 4), 1);
        due("a knave of another suit", knaves.beats(6, 2), 2);
        due("a knave of another suit", knaves.beats(6, 1), 1);
        due("two knaves", knaves.beats(0, 6), 0);
    }

    private static void rings() {
        about("20 rings");
        // The knave beats the king of its suit, he the queen of another, she the knave.
        CardBecome x = with("r4 0 1;c11 0;c12 1;c13 0;p;p;p;");
        due("rings(NONE) of none", x.rings(NONE), 0);
        drawAll(x);
        due("rings(NONE)", x.rings(NONE), 1);
        due("rings(0)", x.rings(0), 21);
        due("rings(1)", x.rings(1), NONE);
        due("rings(-2)", x.rings(-2), NONE);
        CardBecome two = with("r4 0 1;c13 0;c11 0;c12 1;c12 2;p;p;p;p;");
        drawAll(two);
        due("rings(NONE)", two.rings(NONE), 2);
        due("rings(0)", two.rings(0), 21);
        due("rings(1)", two.rings(1), 31);
        due("rings(2)", two.rings(2), NONE);
        CardBecome forward = with("r4 0 1;c13 0;c12 1;c11 0;p;p;p;");
        drawAll(forward);
        due("rings(0) of each who beats the next", forward.rings(0), 12);
        two.getBack(3);
        due("rings(NONE) of three and one itself", two.rings(NONE), 1);
    }

    private static void order() {
        about("21 order");
        CardBecome x = with(SEVEN);
        due("order(1)", x.order(1), 2341);
        due("order(0)", x.order(0), 1234);
        due("order(3)", x.order(3), 3142);
        due("order(16)", x.order(16), UNKNOWN);
        due("order(-1)", x.order(-1), UNKNOWN);
        due("order(2147483647)", x.order(Integer.MAX_VALUE), UNKNOWN);
        x.drawOne(3);
        due("order(8): the lowest has been drawn", x.order(8), NONE);
        due("order(4)", x.order(4), 123);
        drawAll(x);
        due("order(4): nobody has to draw", x.order(4), 0);
        due("order(2): nobody has to draw", x.order(2), NONE);
        duePack(x, "4 5 6");
        CardBecome few = with("r4 0 0;c2 0;c9 0;p;p;p;p;");
        due("order(4) with two cards", few.order(4), 13);
        due("order(6) with two cards", few.order(6), 23);
        due("order(7) with two cards", few.order(7), NONE);
        due("order(15) with two cards", few.order(15), 12);
        drawAll(few);
        due("order(2) with an empty pack", few.order(2), 0);
        due("order(1) with an empty pack", few.order(1), NONE);
        due("order(8) with an empty pack", few.order(8), NONE);
        due("told(14): nothing changes", few.told(14), 2);
    }

    private static void row() {
        about("22 row");
        CardBecome x = with(SEVEN);
        due("row(0, 0, 0)", x.row(0, 0, 0), 0);
        due("row(0, 0, 1)", x.row(0, 0, 1), NONE);
        due("row(0, 6, 0)", x.row(0, 6, 0), 1);
        due("row(0, 6, 1): turned ahead of cut", x.row(0, 6, 1), 1);
        due("row(0, 1, 1)", x.row(0, 1, 1), 0);
        due("row(6, 2, 0)", x.row(6, 2, 0), 3);
        due("row(6, 2, 1)", x.row(6, 2, 1), 2);
        due("row(0, 7, 0)", x.row(0, 7, 0), NONE);
        due("row(0, 11, 1)", x.row(0, 11, 1), NONE);
        due("row(0, 12, 0)", x.row(0, 12, 0), OUTSIDE);
        due("row(0, -1, 0)", x.row(0, -1, 0), OUTSIDE);
        due("row(0, 0, 2)", x.row(0, 0, 2), OUTSIDE);
        due("row(0, 0, -1)", x.row(0, 0, -1), OUTSIDE);
        due("row(7, 12, 2)", x.row(7, 12, 2), UNKNOWN);
        due("row(-1, 0, 0)", x.row(-1, 0, 0), UNKNOWN);
        x.drawOne(0);
        due("row(0, 0, 0) of no pack", x.row(0, 0, 0), NOT);
        due("row(0, 12, 0) of no pack", x.row(0, 12, 0), OUTSIDE);
        due("row(1, 5, 0)", x.row(1, 5, 0), 1);
        duePack(x, "1 2 3 4 5 6");
    }

    private static void tells() {
        about("23 tells");
        CardBecome one = with("r4 0 0;c2 0;p;p;");
        due("tells() of one card", one.tells(), NONE);
        // Of the ten rules, 0 and 1 win by the first three ways of trump, like ranks part by two trumps alone.
        CardBecome x = with("r4 0 0;c5 0;c5 1;c9 0;p;p;p;");
        due("tells(): 0 with 2 parts by L, 5 and 5", x.tells(), 2);
        drawAll(x);
        x.meet(0, 2);
        due("told(11)", x.told(11), 1 + 4 + 16 + 64 + 256);
        due("tells(): by like ranks 1, 1 and 3", x.tells(), 1);
        x.meet(0, 1);
        due("told(11)", x.told(11), 16 + 64 + 256);
        due("tells(): none parts them", x.tells(), NONE);
        CardBecome knave = with("r4 0 1;c11 0;c9 0;p;p;");
        due("tells(): knaves are as told, none parts them", knave.tells(), NONE);
        // Held are both of trump 0 and, as the lower one won, the lower ones of trump 2, 3 and none.
        CardBecome three = with("r0 0 0;c2 0;c9 1;c9 2;c4 3;p;p;p;p;");
        drawAll(three);
        three.meet(0, 1);
        due("told(11)", three.told(11), 1 + 2 + 32 + 128 + 512);
        due("tells(): the 9 of 2 and the 4 of 3 part as 2 and 3, all others as 4 and 1 or not", three.tells(), 203);
    }

    private static void odds() {
        about("24 odds");
        CardBecome x = with(SEVEN);
        due("odds(0, 1) against one who is itself", x.odds(0, 1), 1000000);
        x.drawOne(1);
        due("odds(0, 1): 11, 13 and the trump of six", x.odds(0, 1), 500000);
        due("odds(1, 0)", x.odds(1, 0), 1000000);
        x.drawOne(2);
        x.getBack(2);
        x.drawOne(2);
        x.drawer(2);
        x.force(1);
        x.drawOne(2);
        x.drawer(2);
        due("told(6)", x.told(6), 4);
        due("odds(0, 1): one of four", x.odds(0, 1), 250000);
        x.drawOne(3);
        due("odds(0, 1): none of three", x.odds(0, 1), 0);
        x.getBack(1);
        due("odds(0, 3)", x.odds(0, 3), 0);
        x.getBack(3);
        x.drawOne(1);
        x.drawOne(2);
        due("pack", x.told(6), 3);
        due("odds(0, 2): two of three", x.odds(0, 2), 666666);
        due("odds(0, 0)", x.odds(0, 0), UNKNOWN);
        due("odds(0, 4)", x.odds(0, 4), UNKNOWN);
        due("odds(-1, 0)", x.odds(-1, 0), UNKNOWN);
        CardBecome empty = with("r0 0 0;p;p;");
        due("odds(0, 1) without cards", empty.odds(0, 1), 0);
    }

    private static void back() {
        about("25 back");
        CardBecome x = with(SEVEN);
        due("back(0) of one who is itself", x.back(0), NOT);
        drawAll(x);
        due("back(0): beaten by three", x.back(0), 1);
        due("back(1): beats two, one beats it", x.back(1), 0);
        due("back(2): beats one, two beat it", x.back(2), 1);
        due("back(3)", x.back(3), 0);
        x.getBack(1);
        due("back(2): one and two", x.back(2), 0);
        x.getBack(3);
        x.getBack(2);
        due("back(0)", x.back(0), 0);
        due("back(4)", x.back(4), UNKNOWN);
        due("back(-1)", x.back(-1), UNKNOWN);
        CardBecome even = with("r4 0 0;c2 0;c3 0;c4 0;p;p;p;");
        drawAll(even);
        due("back(1): one and one", even.back(1), 0);
        CardBecome first = with("r4 0 0;c4 0;c3 0;c3 1;p;p;p;");
        drawAll(first);
        due("back(1): beaten by the first alone", first.back(1), 1);
        due("back(0)", first.back(0), 0);
    }

    private static void missing() {
        about("26 missing");
        CardBecome none = new CardBecome();
        due("missing(NONE) without a table", none.missing(NONE), NOT);
        due("missing(0) without a table", none.missing(0), NOT);
        CardBecome x = with("r0 0 0;c1 0;c2 0;c13 3;c1 1;p;");
        due("missing(NONE)", x.missing(NONE), 48);
        due("missing(0)", x.missing(0), 2);
        due("missing(10)", x.missing(10), 12);
        due("missing(11)", x.missing(11), 14);
        due("missing(47)", x.missing(47), 50);
        due("missing(48)", x.missing(48), NONE);
        due("missing(-2)", x.missing(-2), NONE);
        x.drawOne(0);
        due("missing(NONE): drawn is not missing", x.missing(NONE), 48);
        CardBecome all = with("r0 0 0;");
        due("missing(NONE) of none told", all.missing(NONE), 52);
        due("missing(51)", all.missing(51), 51);
    }

    private static void wanted() {
        about("27 wanted");
        CardBecome x = with(SEVEN);
        due("wanted(0) of likes", x.wanted(0), 0);
        due("wanted(1) of likes", x.wanted(1), 3);
        x.drawOne(0);
        due("wanted(0)", x.wanted(0), 1);
        drawAll(x);
        due("wanted(0)", x.wanted(0), 0);
        x.getBack(0);
        x.drawOne(0);
        due("person(0, 0)", x.person(0, 0), 4);
        x.getBack(1);
        due("wanted(0)", x.wanted(0), 1);
        x.drawOne(1);
        due("wanted(1): five below nine", x.wanted(1), 3);
        due("wanted(2)", x.wanted(2), OUTSIDE);
        due("wanted(-1)", x.wanted(-1), OUTSIDE);
        CardBecome even = with("r4 0 1;c11 0;c12 1;c13 0;p;p;p;");
        drawAll(even);
        due("wanted(0) in a ring", even.wanted(0), 0);
        due("wanted(1) in a ring", even.wanted(1), 1);
        CardBecome one = with("r0 0 0;p;");
        due("wanted(0) of one", one.wanted(0), 0);
        due("wanted(1) of one", one.wanted(1), 0);
        CardBecome nobody = with("r0 0 0;c1 1;");
        due("wanted(0) of nobody", nobody.wanted(0), NONE);
        due("wanted(1) of nobody", nobody.wanted(1), NONE);
        due("wanted(2) of nobody", nobody.wanted(2), OUTSIDE);
    }

    private static void see() {
        about("28 see");
        CardBecome x = with(SEVEN);
        due("see(0, 1, 3)", x.see(0, 1, 3), OUTSIDE);
        due("see(0, 1, -1)", x.see(0, 1, -1), OUTSIDE);
        due("see(0, 0, 0)", x.see(0, 0, 0), UNKNOWN);
        due("see(0, 4, 3)", x.see(0, 4, 3), UNKNOWN);
        due("see(-1, 0, 0)", x.see(-1, 0, 0), UNKNOWN);
        for (int i = 1; i <= 6; i++) {
            due("see(0, 1, 2)", x.see(0, 1, i % 3), i);
        }
        due("see of a seventh", x.see(0, 1, 2), FULL);
        due("see of a seventh with 3", x.see(0, 1, 3), OUTSIDE);
        due("see of a seventh with nobody", x.see(0, 9, 2), UNKNOWN);
        due("told(12)", x.told(12), 6);
        due("told(14)", x.told(14), 0);
    }

    private static void deals() {
        about("29 deals");
        CardBecome x = with(SEVEN);
        due("deals(3, NONE)", x.deals(3, NONE), 6);
        due("deals(5, NONE): four of five", x.deals(5, NONE), 120);
        due("deals(1, 0)", x.deals(1, 0), 0);
        due("deals(1, 1): has none", x.deals(1, 1), NONE);
        due("deals(2, 0)", x.deals(2, 0), NONE);
        due("deals(0, NONE)", x.deals(0, NONE), OUTSIDE);
        due("deals(6, NONE)", x.deals(6, NONE), OUTSIDE);
        due("deals(6, 4)", x.deals(6, 4), UNKNOWN);
        due("deals(1, -2)", x.deals(1, -2), UNKNOWN);
        x.see(0, 1, 0);
        due("deals(1, NONE): one has none", x.deals(1, NONE), 0);
        due("deals(1, 0) of no way", x.deals(1, 0), NONE);
        due("deals(2, NONE)", x.deals(2, NONE), 1);
        due("deals(2, 0)", x.deals(2, 0), 1);
        due("deals(2, 1)", x.deals(2, 1), 0);
        x.see(2, 1, 1);
        due("deals(3, NONE)", x.deals(3, NONE), 1);
        due("deals(3, 2): the nine is least", x.deals(3, 2), 0);
        due("deals(3, 0): the knave is most", x.deals(3, 0), 1);
        x.tear();
        x.see(0, 1, 0);
        x.see(2, 0, 1);
        due("deals(3, NONE)", x.deals(3, NONE), 2);
        due("deals(3, 0): the knave in both", x.deals(3, 0), 1);
        due("deals(3, 1)", x.deals(3, 1), NONE);
        due("deals(3, 3): has none", x.deals(3, 3), NONE);
        x.see(0, 1, 1);
        due("deals(5, NONE): it can not be", x.deals(5, NONE), 0);
        x.tear();
        x.see(0, 1, 2);
        due("deals(4, NONE): no two alike", x.deals(4, NONE), 0);
        due("deals(5, NONE): two nines", x.deals(5, NONE), 2 * 6);
        x.force(0);
        x.drawOne(0);
        due("deals(5, NONE): what is drawn lies nowhere", x.deals(5, NONE), 0);
        CardBecome few = with("r4 0 0;c2 0;c3 0;p;p;p;");
        due("deals(5, NONE) of two cards", few.deals(5, NONE), 2);
        CardBecome nobody = with("r4 0 0;c2 0;c3 0;");
        due("deals(2, NONE) before nobody", nobody.deals(2, NONE), 1);
    }

    private static void ask() {
        about("30 ask");
        CardBecome x = with(SEVEN);
        due("ask(1)", x.ask(1), NONE);
        due("ask(2)", x.ask(2), 1);
        due("ask(0)", x.ask(0), OUTSIDE);
        due("ask(6)", x.ask(6), OUTSIDE);
        x.see(0, 1, 0);
        due("ask(2): one way", x.ask(2), NONE);
        due("ask(3)", x.ask(3), 2);
        x.see(0, 2, 0);
        due("ask(3)", x.ask(3), 12);
        x.see(1, 2, 0);
        due("ask(3): one way", x.ask(3), NONE);
        x.see(1, 0, 0);
        due("ask(5): no way", x.ask(5), NONE);
        CardBecome alike = with("r4 0 0;c2 0;c2 1;c2 2;p;p;p;");
        due("ask(3) of like ranks", alike.ask(3), NONE);
    }

    private static void write() {
        about("31 write");
        CardBecome x = with(SEVEN);
        due("write(0, 7)", x.write(0, 7), UNKNOWN);
        due("write(0, -2)", x.write(0, -2), UNKNOWN);
        due("write(4, 0)", x.write(4, 0), UNKNOWN);
        due("write(-1, 0)", x.write(-1, 0), UNKNOWN);
        due("write(0, NONE)", x.write(0, NONE), 1);
        due("write(0, 6)", x.write(0, 6), 2);
        for (int i = 3; i <= 15; i++) {
            due("write(3, 0)", x.write(3, 0), i);
        }
        due("write of a sixteenth", x.write(0, 0), FULL);
        due("write of a sixteenth, unknown", x.write(0, 9), UNKNOWN);
        due("told(13)", x.told(13), 15);
        due("told(14)", x.told(14), 0);
    }

    private static void tear() {
        about("32 tear");
        CardBecome x = with(SEVEN);
        x.see(0, 1, 0);
        x.write(0, 0);
        x.write(1, 0);
        due("tear()", x.tear(), 3);
        due("told(12)", x.told(12), 0);
        due("told(13)", x.told(13), 0);
        due("tear() again", x.tear(), 0);
        due("judge()", x.judge(), NONE);
    }

    private static void judge() {
        about("33 judge");
        CardBecome x = with(SEVEN);
        due("judge() of nothing", x.judge(), NONE);
        x.write(0, NONE);
        due("judge()", x.judge(), NONE);
        x.write(1, 1);
        x.write(0, 0);
        due("judge()", x.judge(), 1);
        x.drawOne(0);
        due("judge()", x.judge(), 0);
        x.drawOne(1);
        due("judge()", x.judge(), 0);
        x.tear();
        x.write(0, 0);
        x.write(1, 1);
        due("judge()", x.judge(), NONE);
        x.drawer(1);
        due("judge() with a drawer", x.judge(), 1);
    }

    private static void seed() {
        about("34 seed");
        CardBecome x = new CardBecome();
        due("seed(5)", x.seed(5), 0);
        due("seed(-1)", x.seed(-1), OUTSIDE);
        due("seed(2147483647)", x.seed(Integer.MAX_VALUE), 5);
        due("seed(0)", x.seed(0), Integer.MAX_VALUE);
        due("seed(-2147483648)", x.seed(Integer.MIN_VALUE), OUTSIDE);
        lay(x, SEVEN);
        x.seed(Integer.MAX_VALUE);
        x.drift(1);
        long seed = Integer.MAX_VALUE;
        seed = (seed * 1103515245L + 12345L) % 2147483648L;
        seed = (seed * 1103515245L + 12345L) % 2147483648L;
        int now = x.seed(0);
        due("the greatest seed goes on", now == (int) seed || now == (int) ((seed * 1103515245L + 12345L) % 2147483648L) ? 1 : 0, 1);
    }

    private static void keep() {
        about("35 keep");
        CardBecome x = new CardBecome();
        due("keep(0) without a table", x.keep(0), 1);
        due("goBack(0) without a table", x.goBack(0), 1);
        lay(x, SEVEN);
        x.drawOne(0);
        due("keep(2)", x.keep(2), UNKNOWN);
        due("keep(-1)", x.keep(-1), UNKNOWN);
        due("told(14)", x.told(14), 1);
        due("keep(1)", x.keep(1), 1);
        due("told(14): nothing can be undone then", x.told(14), 0);
        due("goBack(0)", x.goBack(0), NOT);
        x.drawOne(1);
        due("keep(1) again", x.keep(1), 1);
        x.getBack(0);
        due("goBack(1)", x.goBack(1), 1);
        due("told(8): the later one", x.told(8), 3);
    }

    private static void goBack() {
        about("36 goBack");
        CardBecome x = with(SEVEN);
        due("goBack(0) of what was not kept", x.goBack(0), NOT);
        due("goBack(2)", x.goBack(2), UNKNOWN);
        due("goBack(-1)", x.goBack(-1), UNKNOWN);
        x.drawOne(0);
        x.drawOne(1);
        x.drawer(1);
        x.meet(0, 1);
        x.seed(31);
        x.keep(0);
        x.see(0, 1, 0);
        x.write(0, 0);
        x.meet(0, 1);
        x.out(1);
        x.getBack(0);
        x.shuffle(1);
        x.seed(32);
        x.keep(1);
        x.drift(9);
        due("goBack(0)", x.goBack(0), 1);
        due("told(14): nothing can be undone then", x.told(14), 0);
        duePack(x, "2 3 4 5 6");
        due("told(7)", x.told(7), 2);
        due("told(8)", x.told(8), 1);
        due("told(10)", x.told(10), 1);
        due("person(0, 1)", x.person(0, 1), 1);
        due("seed(0)", x.seed(0), 31);
        due("told(12): what is seen stays", x.told(12), 1);
        due("told(13): the book stays", x.told(13), 1);
        x.drawOne(2);
        due("goBack(1)", x.goBack(1), 1);
        duePack(x, "0 1 6 5 4 3 2");
        due("seed(0)", x.seed(0), 32);
        due("goBack(0) again", x.goBack(0), 1);
        duePack(x, "2 3 4 5 6");
        due("seed(0)", x.seed(0), 31);
    }
}
