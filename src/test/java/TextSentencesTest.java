/** Section 1 of the document and promises 1 to 4, sentence by sentence: the text, its bounds, its first fault. */
public final class TextSentencesTest extends Sentences {
    private static final String RULES = "r0 0 0;";
    private static final String SIX = "p;p;p;p;p;p;";
    private static final int LETTERS = 240;

    public static void main(String[] args) {
        noTable();
        lettersFed();
        lettersFull();
        longestText();
        trumps();
        higherOrLower();
        knaves();
        rulesFirst();
        rulesOnce();
        twelveCards();
        ranksAndSuits();
        eachOnce();
        sixPersons();
        figures();
        words();
        blanks();
        sideBySide();
        firstFault();
        theEnd();
        leastFault();
        cannotStand();
        outOfBounds();
        oneTooMany();
        toldBefore();
        emptyText();
        textIsEmptied();
        tableMakesNew();
        howManyPersons();
        faultyLeavesAll();
        letterOfFault();
        end();
    }

    private static void dueFault(String text, int number, int letter) {
        CardBecome x = new CardBecome();
        due("table() of \"" + text + "\"", lay(x, text), -10 - number);
        due("fault() of \"" + text + "\"", x.fault(), letter);
    }

    private static void dueGood(String text, int persons, int cards) {
        CardBecome x = new CardBecome();
        due("table() of \"" + text + "\"", lay(x, text), persons);
        due("fault() of \"" + text + "\"", x.fault(), NONE);
        due("told(3) of \"" + text + "\"", x.told(3), cards);
    }

    private static String cards(int many) {
        StringBuilder text = new StringBuilder();
        for (int rank = 1; rank <= many; rank++) {
            text.append("c").append(rank).append(" 0;");
        }
        return text.toString();
    }

    private static String filledTo(int letters, String first, String last) {
        return first + " ".repeat(letters - first.length() - last.length()) + last;
    }

    private static void noTable() {
        sentence("`CardBecome()`: No TABLE.");
        CardBecome x = new CardBecome();
        dueTold("of a new object", x, NONE, 0, 0, 0, 0, 0, 0, 0, 0, NONE, 0, 1023, 0, 0, 0);
        due("fault()", x.fault(), NONE);
        due("shuffle(0)", x.shuffle(0), NOT);
        due("drift(1)", x.drift(1), NOT);
        due("missing(NONE)", x.missing(NONE), NOT);
        due("undo()", x.undo(), NOT);
        due("goBack(0)", x.goBack(0), NOT);
        due("goBack(1)", x.goBack(1), NOT);
        due("pack(0)", x.pack(0), NONE);
        due("logged(0, 0)", x.logged(0, 0), NONE);
        due("card(0, 0)", x.card(0, 0), UNKNOWN);
        due("person(0, 0)", x.person(0, 0), UNKNOWN);
        due("drawOne(0)", x.drawOne(0), UNKNOWN);
        due("getBack(0)", x.getBack(0), UNKNOWN);
        due("meet(0, 1)", x.meet(0, 1), UNKNOWN);
        due("force(0)", x.force(0), UNKNOWN);
        due("drawer(0)", x.drawer(0), UNKNOWN);
        due("out(0)", x.out(0), UNKNOWN);
        due("beats(0, 1)", x.beats(0, 1), UNKNOWN);
        due("row(0, 0, 0)", x.row(0, 0, 0), UNKNOWN);
        due("odds(0, 1)", x.odds(0, 1), UNKNOWN);
        due("back(0)", x.back(0), UNKNOWN);
        due("see(0, 1, 0)", x.see(0, 1, 0), UNKNOWN);
        due("write(0, NONE)", x.write(0, NONE), UNKNOWN);
        due("order(0)", x.order(0), 0);
        due("order(1)", x.order(1), UNKNOWN);
        due("rings(NONE)", x.rings(NONE), 0);
        due("tells()", x.tells(), NONE);
        due("wanted(0)", x.wanted(0), NONE);
        due("deals(1, NONE)", x.deals(1, NONE), 1);
        due("deals(1, 0)", x.deals(1, 0), UNKNOWN);
        due("ask(1)", x.ask(1), NONE);
        due("judge()", x.judge(), NONE);
        due("tear()", x.tear(), 0);
        due("seed(0)", x.seed(0), 0);
    }

    private static void lettersFed() {
        sentence("One letter (a number 0 .. 255) comes behind THE TEXT: how many it has.");
        CardBecome low = new CardBecome();
        CardBecome high = new CardBecome();
        for (int i = 0; i < 128; i++) {
            due("feed(" + i + ")", low.feed(i), i + 1);
            due("feed(" + (128 + i) + ")", high.feed(128 + i), i + 1);
        }
        int[] outside = {-1, 256, LEAST, MOST, -256, 512, 114 + 256, 114 - 256};
        for (int letter : outside) {
            due("feed(" + letter + ")", low.feed(letter), OUTSIDE);
        }
        due("told(5)", low.told(5), 128);
        CardBecome behind = feedAll(new CardBecome(), "r0 0 0;p");
        behind.feed(';');
        due("table(): a letter comes behind", behind.table(), 1);
        behind.feed(114 + 256);
        due("table(): 370 is not cut to 'r', the text is empty", behind.table(), 0);
        due("told(0)", behind.told(0), NONE);
    }

    private static void lettersFull() {
        sentence("OUTSIDE, FULL (240).");
        CardBecome x = new CardBecome();
        for (int i = 1; i <= LETTERS; i++) {
            due("feed(32)", x.feed(32), i);
        }
        due("a 241st letter", x.feed(32), FULL);
        due("a 241st letter again", x.feed('r'), FULL);
        due("a 241st letter that is none", x.feed(256), OUTSIDE);
        due("a 241st letter that is none", x.feed(-1), OUTSIDE);
        due("told(5)", x.told(5), LETTERS);
        x.table();
        due("the first letter behind table()", x.feed(32), 1);
    }

    private static void longestText() {
        sentence("THE TABLE is told in a text (240 letters at most)");
        for (int letters = LETTERS - 1; letters <= LETTERS; letters++) {
            dueGood(filledTo(letters, RULES + "p;", "p;"), 2, 0);
            dueGood(filledTo(letters, RULES + "p;", "p;p;p;p;p;"), 6, 0);
            dueFault(filledTo(letters, RULES + "p;", "x"), 1, letters - 1);
            dueFault(filledTo(letters, RULES + "p;", "p"), 1, letters);
            dueFault(filledTo(letters, RULES + "c1 1;", "c1 1"), 4, letters - 1);
            dueFault(filledTo(letters, "", "r0 0 0"), 1, letters);
        }
        CardBecome x = feedAll(new CardBecome(), filledTo(LETTERS, RULES, "p;"));
        due("a 241st letter", x.feed('x'), FULL);
        due("table(): what was FULL is not of the text", x.table(), 1);
    }

    private static void trumps() {
        sentence("TRUMP suit T, 0 .. 3, or 4: none;");
        for (int trump = 0; trump <= 4; trump++) {
            CardBecome x = with("r" + trump + " 0 0;c1 0;c1 1;c1 2;c1 3;");
            due("told(0)", x.told(0), trump);
            for (int c = 0; c < 4; c++) {
                for (int d = 0; d < 4; d++) {
                    if (c != d) {
                        int want = c == trump ? 1 : d == trump ? 2 : 0;
                        due("beats(" + c + ", " + d + ") with trump " + trump, x.beats(c, d), want);
                    }
                }
            }
        }
        dueFault("r5 0 0;", 2, 1);
        dueFault("r999 0 0;", 2, 1);
    }

    private static void higherOrLower() {
        sentence("L 0 the higher rank wins, 1 the lower;");
        for (int low = 0; low <= 1; low++) {
            CardBecome x = with("r4 " + low + " 0;c1 0;c13 1;c2 2;");
            due("told(1)", x.told(1), low);
            due("1 and 13 by " + low, x.beats(0, 1), low == 0 ? 2 : 1);
            due("13 and 2 by " + low, x.beats(1, 2), low == 0 ? 1 : 2);
            due("1 and 2 by " + low, x.beats(0, 2), low == 0 ? 2 : 1);
        }
        dueFault("r0 2 0;", 2, 3);
        dueFault("r0 10 0;", 2, 3);
    }

    private static void knaves() {
        sentence("K 1 a KNAVE, rank 11, beats all of the same suit, 0 not;");
        for (int knave = 0; knave <= 1; knave++) {
            CardBecome x = with("r4 0 " + knave + ";c11 1;c10 1;c12 1;c13 1;c1 1;c12 2;");
            due("told(2)", x.told(2), knave);
            due("11 and 10", x.beats(0, 1), 1);
            due("11 and 12", x.beats(0, 2), knave == 1 ? 1 : 2);
            due("13 and 11", x.beats(3, 0), knave == 1 ? 2 : 1);
            due("11 and 1", x.beats(0, 4), 1);
            due("11 and 12 of another suit", x.beats(0, 5), 2);
            due("10 is no knave", x.beats(1, 3), 2);
            due("12 is no knave", x.beats(2, 3), 2);
        }
        CardBecome low = with("r4 1 1;c11 1;c1 1;c1 2;");
        due("11 and 1, the lower wins", low.beats(0, 1), 1);
        due("11 and 1 of another suit, the lower wins", low.beats(0, 2), 2);
        dueFault("r0 0 2;", 2, 5);
        dueFault("r0 0 11;", 2, 5);
    }

    private static void rulesFirst() {
        sentence("another word first than 'r'");
        dueFault("c1 1;", 1, 0);
        dueFault("c1 1;r0 0 0;", 1, 0);
        dueFault("p;", 1, 0);
        dueFault(" p;r0 0 0;", 1, 1);
        dueFault(";", 1, 0);
        dueFault(";r0 0 0;", 1, 0);
        dueFault("0", 1, 0);
        dueFault("0000", 1, 0);
        dueFault("R0 0 0;", 1, 0);
        dueGood("r0 0 0;", 0, 0);
        dueGood("  r0 0 0;", 0, 0);
    }

    private static void rulesOnce() {
        sentence("first, once)");
        dueFault(RULES + "r0 0 0;", 3, 7);
        dueFault(RULES + "  r", 3, 9);
        dueFault(RULES + "p;c1 1;r9 9 9;", 3, 14);
    }

    private static void twelveCards() {
        sentence("(12 CARDS at most, in the PACK as they come, the first on top:");
        for (int many = 0; many <= 12; many++) {
            dueGood(RULES + cards(many), 0, many);
            CardBecome x = with(RULES + cards(many));
            due("told(6)", x.told(6), many);
            for (int place = 0; place < 12; place++) {
                due("pack(" + place + ") of " + many, x.pack(place), place < many ? place : NONE);
            }
        }
        CardBecome between = with(RULES + "p;c9 3;p;c2 1;p;c5 0;");
        duePack("told between persons", between, "0 1 2");
        due("card(0, 0)", between.card(0, 0), 9);
        due("card(2, 0)", between.card(2, 0), 5);
        String twelve = RULES + cards(12);
        dueFault(twelve + "c13 0;", 3, twelve.length());
        dueFault(twelve + "p; c", 3, twelve.length() + 3);
    }

    private static void ranksAndSuits() {
        sentence("rank R, 1 .. 13, suit S, 0 .. 3;");
        for (int suit = 0; suit <= 3; suit++) {
            for (int rank = 1; rank <= 13; rank++) {
                CardBecome x = with(RULES + "c" + rank + " " + suit + ";");
                due("card(0, 0)", x.card(0, 0), rank);
                due("card(0, 1)", x.card(0, 1), suit);
            }
        }
        dueFault(RULES + "c0 0;", 2, 8);
        dueFault(RULES + "c14 0;", 2, 8);
        dueFault(RULES + "c1 4;", 2, 10);
        dueFault(RULES + "c13 4;", 2, 11);
    }

    private static void eachOnce() {
        sentence("each once)");
        dueFault(RULES + "c1 1;c1 1;", 4, 15);
        dueFault(RULES + "c1 0;c13 3;c1 0;", 4, 21);
        dueFault(RULES + "c1 0;c13 3;c13 3;", 4, 22);
        dueGood(RULES + "c1 1;c1 0;c2 1;c2 0;", 0, 4);
        dueGood(RULES + "c1 3;c13 2;c1 2;c13 3;", 0, 4);
    }

    private static void sixPersons() {
        sentence("'p' ';' (6 PERSONS at most)");
        for (int many = 0; many <= 6; many++) {
            dueGood(RULES + SIX.substring(0, 2 * many), many, 0);
        }
        dueFault(RULES + SIX + "p;", 3, 19);
        dueFault(RULES + "p;p;p;c1 1;p;p;p;  p;", 3, 26);
    }

    private static void figures() {
        sentence("NUMBERS have one to three figures;");
        dueGood("r4 1 1;c9 3;", 0, 1);
        dueGood("r04 01 01;c09 03;", 0, 1);
        dueGood("r004 001 001;c009 003;", 0, 1);
        dueGood("r000 000 000;c013 000;", 0, 1);
        dueFault("r0004 1 1;", 2, 1);
        dueFault("r4 0001 1;", 2, 3);
        dueFault("r4 1 0001;", 2, 5);
        dueFault(RULES + "c0009 3;", 2, 8);
        dueFault(RULES + "c9 0003;", 2, 10);
        dueFault(RULES + "c9 " + "0".repeat(229), 2, 10);
        CardBecome x = with("r004 001 001;c009 003;");
        due("told(0)", x.told(0), 4);
        due("told(1)", x.told(1), 1);
        due("told(2)", x.told(2), 1);
        due("card(0, 0)", x.card(0, 0), 9);
        due("card(0, 1)", x.card(0, 1), 3);
    }

    private static void words() {
        sentence("a word is one letter;");
        dueFault(RULES + "pp;", 1, 8);
        dueFault(RULES + "cc1 1;", 1, 8);
        dueFault("rr0 0 0;", 1, 1);
        dueFault("r0 0 0;;", 1, 7);
        dueFault("r0 0 0;p;;", 1, 9);
    }

    private static void blanks() {
        sentence("blanks (32) may stand anywhere but within NUMBERS;");
        dueGood("   r   0   0   0   ;   c   1   1   ;   p   ;   ", 1, 1);
        dueGood("r0 0 0;c12 1;p;", 1, 1);
        dueFault(RULES + "c1 2 1;", 1, 12);
        dueFault(RULES + "c1 2 ", 1, 12);
        dueFault(RULES + "c1 0 1;", 1, 12);
        dueFault("r 0 0 0 0;", 1, 8);
        for (int letter = 0; letter < 256; letter++) {
            boolean blank = letter == 32;
            CardBecome x = new CardBecome();
            int want = blank ? 1 : letter == ';' ? 1 : -11;
            due("table() with letter " + letter + " ahead of the end", lay(x, RULES + "p" + (char) letter + (letter == ';' ? "" : ";")), want);
            due("fault() with letter " + letter, x.fault(), want < 0 ? 8 : NONE);
        }
    }

    private static void sideBySide() {
        sentence("two NUMBERS side by side need one.");
        dueFault("r000;", 1, 4);
        dueFault("r00 0;", 1, 5);
        dueFault(RULES + "c11;", 1, 10);
        dueFault(RULES + "c111;", 2, 8);
        dueFault(RULES + "c011;", 1, 11);
        dueGood("r0 0  0;c1 1;", 0, 1);
    }

    private static void firstFault() {
        sentence("FAULTS, at the first letter that has one");
        dueFault("r9 9 9;c99 99;x", 2, 1);
        dueFault("r0 9 x", 2, 3);
        dueFault("rx9999", 1, 1);
        dueFault(RULES + "c14 9;r", 2, 8);
        dueFault(RULES + "c1 9;r", 2, 10);
        dueFault(RULES + "r0 0 9;c0 0;", 3, 7);
        dueFault(RULES + "c1 1;c1 1x", 4, 15);
        dueFault(RULES + "c1 1;c1 x1", 1, 15);
        dueFault(RULES + "c1 1;c14 1", 2, 13);
        dueFault(RULES + SIX + "p9999", 3, 19);
        dueFault(RULES + cards(12) + "c0 9x", 3, 7 + cards(12).length());
        dueFault(RULES + "p" + SIX, 1, 8);
    }

    private static void theEnd() {
        sentence("(the end at the text's length)");
        String whole = "r0 0 0;c12 3;p;";
        for (int letters = 1; letters < whole.length(); letters++) {
            String cut = whole.substring(0, letters);
            if (cut.endsWith(";")) {
                due("table() of \"" + cut + "\"", lay(new CardBecome(), cut), 0);
            } else {
                dueFault(cut, 1, letters);
                dueFault(cut + "   ", 1, letters + 3);
            }
        }
    }

    private static void leastFault() {
        sentence("of these the least:");
        // A number where none may stand, with four figures: 1 and 2.
        dueFault(RULES + "0000", 1, 7);
        dueFault(RULES + "p0000;", 1, 8);
        dueFault("r0 0 0 0000;", 1, 7);
        // A word where it may not stand that is one too many as well: 1 and 3.
        dueFault("r r0 0 0;", 1, 2);
        dueFault(RULES + "pr", 1, 8);
        dueFault(RULES + SIX + "cp", 1, 20);
        dueFault(RULES + SIX + "c1 1p", 1, 23);
        dueFault(RULES + cards(12) + "pc", 1, 8 + cards(12).length());
        // A suit of four figures, or too great, of a card that was told: 2 and 4.
        dueFault(RULES + "c1 1;c1 0001;", 2, 15);
        dueFault(RULES + "c1 1;c1 4;", 2, 15);
    }

    private static void cannotStand() {
        sentence("1 it cannot stand there (a letter that is no word,");
        for (int letter = 0; letter < 256; letter++) {
            String one = String.valueOf((char) letter);
            boolean blank = letter == ' ';
            boolean figure = letter >= '0' && letter <= '9';
            if (!blank && letter != 'r') {
                dueFault(one, 1, 0);
            }
            if (!blank && letter != 'c' && letter != 'p' && letter != 'r') {
                dueFault(RULES + one, 1, 7);
            }
            if (!blank && !figure) {
                dueFault("r" + one, 1, 1);
                dueFault(RULES + "c" + one, 1, 8);
                dueFault(RULES + "c1 " + one, 1, 10);
                dueFault("r0" + one, 1, 2);
            }
            if (!blank && letter != ';' && !figure) {
                dueFault(RULES + "c1 1" + one, 1, 11);
            }
        }
    }

    private static void outOfBounds() {
        sentence("2 a NUMBER of four figures or more, or out of its bounds (at its first).");
        dueFault("r  5 0 0;", 2, 3);
        dueFault("r0  002 0;", 2, 4);
        dueFault("r0 0  9999", 2, 6);
        dueFault(RULES + "c  000 0;", 2, 10);
        dueFault(RULES + "c  014 0;", 2, 10);
        dueFault(RULES + "c1  004;", 2, 11);
        dueFault(RULES + "c1  00000;", 2, 11);
        dueFault("r4294967296 0 0;", 2, 1);
        dueFault("r18446744073709551616 0 0;", 2, 1);
        dueFault(RULES + "c4294967297 0;", 2, 8);
        dueFault(RULES + "c999 0;", 2, 8);
    }

    private static void oneTooMany() {
        sentence("3 'r' again, a 13th 'c', a seventh 'p' (at it).");
        dueFault(RULES + "r", 3, 7);
        dueFault(RULES + SIX + "r", 3, 19);
        dueFault(RULES + SIX + "p", 3, 19);
        dueFault(RULES + SIX + " p", 3, 20);
        dueFault(RULES + cards(12) + "c", 3, 7 + cards(12).length());
        dueFault(RULES + cards(12) + SIX + " c", 3, 20 + cards(12).length());
        dueFault(RULES + cards(12) + SIX + " p", 3, 20 + cards(12).length());
        dueGood(RULES + cards(12) + SIX, 6, 12);
        dueFault(RULES + cards(12) + SIX + " r", 3, 20 + cards(12).length());
    }

    private static void toldBefore() {
        sentence("4 a CARD that was told (at the S).");
        dueFault(RULES + "c1 1;c1 1", 4, 15);
        dueFault(RULES + "c1 1;c 001   001  ;", 4, 20);
        dueFault(RULES + "c1 1;p;c2 1;p;c1 1;", 4, 24);
        dueFault(RULES + "c13 3;p;c013 3", 4, 20);
        CardBecome again = with(RULES + "c1 1;");
        due("table(): what an earlier text told is not told", lay(again, RULES + "c1 1;p;"), 1);
        lay(again, RULES + "c2 2;c3 3;x");
        due("table(): nor what a faulty one told", lay(again, RULES + "c2 2;c3 3;"), 0);
    }

    private static void emptyText() {
        sentence("An empty text: no TABLE.");
        CardBecome x = drawn(SEVEN);
        due("table() of an empty text", x.table(), 0);
        due("fault()", x.fault(), NONE);
        dueTold("without a table", x, NONE, 0, 0, 0, 0, 0, 0, 0, 0, NONE, 0, 1023, 0, 0, 0);
        due("shuffle(0)", x.shuffle(0), NOT);
        due("drift(1)", x.drift(1), NOT);
        due("missing(NONE)", x.missing(NONE), NOT);
        due("pack(0)", x.pack(0), NONE);
        due("card(0, 0)", x.card(0, 0), UNKNOWN);
        due("person(0, 0)", x.person(0, 0), UNKNOWN);
        due("drawOne(0)", x.drawOne(0), UNKNOWN);
        due("order(1)", x.order(1), UNKNOWN);
        CardBecome low = with("r3 1 1;c1 1;p;");
        low.table();
        dueTold("behind rules of 3, 1, 1", low, NONE, 0, 0, 0, 0);
        CardBecome rules = with(RULES);
        due("rules alone are a table: told(0)", rules.told(0), 0);
        due("shuffle(0)", rules.shuffle(0), NONE);
        due("drift(1)", rules.drift(1), 0);
        due("missing(NONE)", rules.missing(NONE), 52);
    }

    private static void textIsEmptied() {
        sentence("THE TEXT (it is empty then, with a FAULT, too)");
        CardBecome x = feedAll(new CardBecome(), SEVEN);
        due("told(5)", x.told(5), SEVEN.length());
        x.table();
        due("told(5) behind a good text", x.told(5), 0);
        lay(x, "r0 0 0;p;x");
        due("told(5) behind a faulty one", x.told(5), 0);
        due("table(): nothing of the faulty one is left", lay(x, "r0 0 0;p;p;"), 2);
        lay(x, "r0 0 0");
        due("feed(';') does not go on from it", x.feed(';'), 1);
        due("table()", x.table(), -11);
        due("fault()", x.fault(), 0);
        feedAll(x, " ".repeat(LETTERS));
        x.table();
        due("feed(32) behind a full one", x.feed(32), 1);
    }

    private static CardBecome busy() {
        CardBecome x = with(SEVEN);
        x.drawOne(0);
        x.drawOne(1);
        x.drawer(1);
        x.meet(0, 1);
        x.see(0, 1, 0);
        x.write(0, 0);
        x.keep(0);
        x.keep(1);
        x.drawOne(2);
        x.shuffle(1);
        x.seed(77);
        return x;
    }

    private static void tableMakesNew() {
        sentence("(all ARE themselves, THE LOG is empty; nothing SEEN, no BOOK; IMAGES, what could be undone are gone; THE SEED stays)");
        String[] texts = {SEVEN, "r4 1 0;c13 3;p;c1 0;p;", RULES, ""};
        for (String text : texts) {
            CardBecome x = busy();
            CardBecome fresh = new CardBecome();
            due("table()", lay(x, text), lay(fresh, text));
            for (int what = 0; what <= 14; what++) {
                due("told(" + what + ")", x.told(what), fresh.told(what));
            }
            duePack("of a new table", x, packOf(fresh));
            dueIs("at a new table", x, isOf(fresh));
            due("wins at a new table", winsOf(x), winsOf(fresh));
            due("logged(0, 0)", x.logged(0, 0), NONE);
            due("deals(2, NONE)", x.deals(2, NONE), fresh.deals(2, NONE));
            due("judge()", x.judge(), NONE);
            due("tear()", x.tear(), 0);
            due("undo()", x.undo(), NOT);
            due("goBack(0)", x.goBack(0), NOT);
            due("goBack(1)", x.goBack(1), NOT);
            due("seed(0)", x.seed(0), 77);
        }
    }

    private static void howManyPersons() {
        sentence("how many PERSONS; -10 less the number of its FAULT");
        for (int many = 0; many <= 6; many++) {
            due("table() of " + many, lay(new CardBecome(), RULES + "c1 1;" + SIX.substring(0, 2 * many)), many);
        }
        due("fault 1", lay(new CardBecome(), "x"), -11);
        due("fault 2", lay(new CardBecome(), "r5"), -12);
        due("fault 3", lay(new CardBecome(), RULES + "r"), -13);
        due("fault 4", lay(new CardBecome(), RULES + "c1 1;c1 1;"), -14);
    }

    private static void faultyLeavesAll() {
        sentence("(all else is as it was)");
        String[] faulty = {"x", "r9", "r1 1 0;r", "r1 1 0;c1 0;c2 0;p;c1 0;", "r1 1 0;c3 3;p;p;p"};
        for (String text : faulty) {
            CardBecome x = busy();
            CardBecome same = busy();
            due("table() of \"" + text + "\"", lay(x, text) < -10 ? 1 : 0, 1);
            for (int what = 0; what <= 14; what++) {
                due("told(" + what + ")", x.told(what), same.told(what));
            }
            due("card(0, 0)", x.card(0, 0), 9);
            due("card(6, 1)", x.card(6, 1), 0);
            due("beats(1, 2)", x.beats(1, 2), 1);
            duePack("as it was", x, packOf(same));
            dueIs("as it was", x, isOf(same));
            due("wins as they were", winsOf(x), winsOf(same));
            due("logged(0, 1)", x.logged(0, 1), 1);
            due("missing(NONE)", x.missing(NONE), 45);
            due("judge()", x.judge(), same.judge());
            due("undo()", x.undo(), 1);
            due("undo()", x.undo(), 0);
            due("goBack(0)", x.goBack(0), 1);
            due("goBack(1)", x.goBack(1), 1);
            due("seed(0): of the image", x.seed(0), 0);
        }
        CardBecome none = new CardBecome();
        lay(none, "r1 1 0;c1 0;p;x");
        due("told(0): there was no table", none.told(0), NONE);
        due("told(3)", none.told(3), 0);
        due("shuffle(0)", none.shuffle(0), NOT);
        CardBecome seeded = busy();
        lay(seeded, "x");
        due("seed(0): it stays", seeded.seed(0), 77);
    }

    private static void letterOfFault() {
        sentence("The letter of the FAULT of the latest table(); NONE.");
        CardBecome x = new CardBecome();
        due("fault() ahead of a table()", x.fault(), NONE);
        lay(x, "x");
        due("fault() at the first letter", x.fault(), 0);
        lay(x, RULES + "q");
        due("fault() of the latest", x.fault(), 7);
        feedAll(x, RULES);
        due("fault() while letters are fed", x.fault(), 7);
        x.table();
        due("fault() of a good text", x.fault(), NONE);
        lay(x, "r");
        due("fault() at the end", x.fault(), 1);
        x.table();
        due("fault() of an empty text", x.fault(), NONE);
        lay(x, "r 9");
        x.table();
        lay(x, " ");
        due("fault() of a blank", x.fault(), NONE);
    }
}
