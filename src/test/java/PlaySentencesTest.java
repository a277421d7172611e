import java.util.ArrayList;
import java.util.Collections;
import java.util.List;

/** Section 2 of the document and promises 5 to 18, sentence by sentence: what is, what is done, what is undone. */
public final class PlaySentencesTest extends Sentences {
    public static void main(String[] args) {
        cutsTowardsZero();
        fromZeroOn();
        setsByBits();
        itselfAtFirst();
        beatsOfAllPairs();
        likeRanks();
        cardAndItself();
        drawnFromTop();
        gotBackBelow();
        winsCounted();
        logKeeps();
        logTellsWhatWas();
        forcedToTop();
        riffled();
        turned();
        cut();
        inDrawer();
        toldAll();
        toldOutside();
        cardTells();
        packTells();
        personTells();
        loggedTells();
        drawOneRefused();
        getBackRefused();
        metWho();
        forceRefused();
        shuffleRefused();
        drawerRefused();
        outOf();
        drifts();
        driftSteps();
        driftWhatCannotBe();
        driftWithoutPersons();
        seedGoesOn();
        undoneAreThese();
        undoneSixteen();
        undoneAll();
        undoRefused();
        end();
    }

    private static void cutsTowardsZero() {
        sentence("All numbers are whole; / cuts towards 0.");
        CardBecome x = with("r4 0 0;c5 0;c4 0;c6 0;c3 0;p;p;");
        x.drawOne(0);
        due("odds(1, 0): 333333 of a third", x.odds(1, 0), 333333);
        x.shuffle(0);
        duePack("riffled: the upper half of three is one", x, "2 1 3");
    }

    private static void fromZeroOn() {
        sentence("What has a number has it from 0 on, as it comes.");
        CardBecome x = with("r4 0 0;p;c9 3;c2 1;p;");
        due("card(0, 0)", x.card(0, 0), 9);
        due("card(1, 0)", x.card(1, 0), 2);
        due("card(2, 0)", x.card(2, 0), UNKNOWN);
        due("person(1, 0)", x.person(1, 0), NONE);
        due("person(2, 0)", x.person(2, 0), UNKNOWN);
        x.write(0, NONE);
        x.write(0, 1);
        due("judge(): the second entry is 1", x.judge(), 1);
    }

    private static void setsByBits() {
        sentence("A SET is a whole number, bit k for k.");
        for (int k = 0; k < 6; k++) {
            CardBecome x = with(TWELVE);
            x.force(2 * k + 1);
            x.drawOne(k);
            due("told(8): the bit of " + k, x.told(8), 1 << k);
            due("person(" + k + ", 2): all other bits", x.person(k, 2), 63 - (1 << k));
            x.drawer(k);
            due("told(7): the bit of " + (2 * k + 1), x.told(7), 1 << 2 * k + 1);
        }
    }

    private static void itselfAtFirst() {
        sentence("A PERSON IS a CARD, or itself (NONE; so at first).");
        CardBecome x = with(TWELVE);
        dueIs("at first", x, "-1 -1 -1 -1 -1 -1");
        due("told(8)", x.told(8), 0);
        for (int c = 0; c < 12; c++) {
            due("card(" + c + ", 3)", x.card(c, 3), NONE);
        }
    }

    /** The document's rule, in its own order. */
    private static int ruled(int[] c, int[] d, int trump, int low, int knave) {
        if ((c[1] == trump) != (d[1] == trump)) {
            return c[1] == trump ? 1 : 2;
        }
        if (c[1] == d[1] && knave == 1 && (c[0] == 11) != (d[0] == 11)) {
            return c[0] == 11 ? 1 : 2;
        }
        if (c[0] == d[0]) {
            return 0;
        }
        boolean firstHigher = c[0] > d[0];
        return firstHigher == (low == 0) ? 1 : 2;
    }

    private static void beatsOfAllPairs() {
        sentence("A CARD BEATS another one: if just one of them is of the TRUMP suit, that one; of like suits with K 1, "
            + "if just one of them is a KNAVE, that one; else by L that of the higher or the lower rank;");
        for (int rule = 0; rule < 20; rule++) {
            int trump = rule / 4;
            int low = rule / 2 % 2;
            int knave = rule % 2;
            for (int pair = 0; pair < 52 * 52; pair++) {
                int[] c = {pair / 52 % 13 + 1, pair / 52 / 13};
                int[] d = {pair % 52 % 13 + 1, pair % 52 / 13};
                if (pair / 52 != pair % 52) {
                    String text = "r" + trump + " " + low + " " + knave + ";c" + c[0] + " " + c[1] + ";c" + d[0] + " " + d[1] + ";";
                    due("beats(0, 1) of " + text, with(text).beats(0, 1), ruled(c, d, trump, low, knave));
                }
            }
        }
    }

    private static void likeRanks() {
        sentence("of like ranks neither.");
        for (int rank = 1; rank <= 13; rank++) {
            CardBecome x = drawn("r0 0 1;c" + rank + " 1;c" + rank + " 2;c" + rank + " 0;p;p;p;");
            due("beats(0, 1)", x.beats(0, 1), 0);
            due("beats(1, 0)", x.beats(1, 0), 0);
            due("meet(0, 1)", x.meet(0, 1), NONE);
            due("the trump of like rank", x.beats(0, 2), 2);
            due("wins", winsOf(x), "0 0 0");
        }
    }

    private static void cardAndItself() {
        sentence("Who IS a CARD beats who IS itself; of two who are themselves neither.");
        // The least of all cards: rank 1 where the higher wins, rank 13 where the lower does.
        String[] texts = {"r4 0 1;c1 0;p;p;p;", "r4 1 1;c13 0;p;p;p;"};
        for (String text : texts) {
            CardBecome x = with(text);
            due("meet(0, 1) of themselves", x.meet(0, 1), NONE);
            x.drawOne(1);
            due("meet(0, 1)", x.meet(0, 1), 1);
            due("meet(1, 0)", x.meet(1, 0), 1);
            due("person(1, 2)", x.person(1, 2), 5);
            due("person(0, 2)", x.person(0, 2), 0);
            due("meet(0, 2) of themselves", x.meet(0, 2), NONE);
            x.drawer(1);
            due("meet(0, 1): a card in a drawer is nobody", x.meet(0, 1), NONE);
        }
    }

    private static void drawnFromTop() {
        sentence("DRAWN: the top CARD of the PACK: the PERSON IS it.");
        CardBecome x = with("r4 0 0;c5 0;c6 0;p;p;p;");
        due("drawOne(2)", x.drawOne(2), 0);
        duePack("of one card", x, "1");
        due("drawOne(0): the last", x.drawOne(0), 1);
        due("told(6)", x.told(6), 0);
        due("pack(0)", x.pack(0), NONE);
        dueIs("after two draws", x, "1 -1 0");
        due("drawOne(1)", x.drawOne(1), NOT);
    }

    private static void gotBackBelow() {
        sentence("GOT BACK: it goes below the PACK, the PERSON IS itself.");
        CardBecome x = with("r4 0 0;c5 0;c6 0;c7 0;p;p;p;");
        drawAll(x);
        due("getBack(1) to an empty pack", x.getBack(1), 1);
        duePack("of one", x, "1");
        due("getBack(0)", x.getBack(0), 0);
        due("getBack(2)", x.getBack(2), 2);
        duePack("of all", x, "1 0 2");
        dueIs("after all", x, "-1 -1 -1");
        CardBecome full = with(TWELVE);
        full.drawOne(5);
        due("getBack(5) of twelve", full.getBack(5), 0);
        duePack("of twelve", full, "1 2 3 4 5 6 7 8 9 10 11 0");
    }

    private static void winsCounted() {
        sentence("WINS of who BEATS are counted (999999 at most)");
        CardBecome x = drawn("r4 0 0;c5 0;c6 0;p;p;");
        x.meet(0, 1);
        x.meet(1, 0);
        due("wins", winsOf(x), "0 2");
        // No 512 calls lead to the bound: what is free by then is held to all the same.
        for (int i = 2; i < 999998; i++) {
            x.meet(0, 1);
        }
        due("wins", winsOf(x), "0 999998");
        x.meet(0, 1);
        due("wins", winsOf(x), "0 999999");
        due("meet(0, 1)", x.meet(0, 1), 1);
        x.meet(1, 0);
        due("wins", winsOf(x), "0 999999");
    }

    private static void logKeeps() {
        sentence("THE LOG keeps the latest 24:");
        CardBecome x = with("r4 0 0;c5 0;p;p;p;p;p;p;");
        for (int i = 0; i < 60; i++) {
            int p = i % 6;
            x.meet(p, (p + 1 + i / 6 % 5) % 6);
            due("told(10)", x.told(10), Math.min(24, i + 1));
            if (i == 22 || i == 23 || i == 24 || i == 59) {
                for (int back = 0; back < 30; back++) {
                    int was = i - back;
                    boolean kept = was >= 0 && back < 24;
                    due("logged(" + back + ", 0)", x.logged(back, 0), kept ? was % 6 : NONE);
                    due("logged(" + back + ", 1)", x.logged(back, 1), kept ? (was % 6 + 1 + was / 6 % 5) % 6 : NONE);
                }
            }
        }
    }

    private static void logTellsWhatWas() {
        sentence("who with whom, what both WERE, who won (or neither).");
        CardBecome x = drawn("r4 0 0;c5 0;c6 0;c6 1;p;p;p;");
        x.meet(0, 1);
        x.meet(2, 1);
        due("told(11)", x.told(11), 256 + 64 + 16);
        x.getBack(0);
        x.getBack(1);
        x.drawOne(1);
        due("logged(1, 2): who is itself by now", x.logged(1, 2), 1);
        due("logged(0, 2): neither", x.logged(0, 2), NONE);
        due("told(11): by what both were", x.told(11), 256 + 64 + 16);
    }

    private static void forcedToTop() {
        sentence("FORCED: a CARD of the PACK comes to its top.");
        CardBecome x = with(TWELVE);
        due("force(11): the last", x.force(11), 11);
        duePack("with the last on top", x, "11 0 1 2 3 4 5 6 7 8 9 10");
        due("force(11): the top", x.force(11), 0);
        duePack("as it was", x, "11 0 1 2 3 4 5 6 7 8 9 10");
        due("force(0)", x.force(0), 1);
        duePack("with the second on top", x, "0 11 1 2 3 4 5 6 7 8 9 10");
        CardBecome one = with("r4 0 0;c5 0;p;");
        due("force(0) of one", one.force(0), 0);
        duePack("of one", one, "0");
    }

    private static CardBecome packOfN(int n) {
        StringBuilder text = new StringBuilder("r4 0 0;");
        for (int c = 0; c < n; c++) {
            text.append("c").append(c + 1).append(" 1;");
        }
        return with(text.toString());
    }

    private static String words(List<Integer> row) {
        StringBuilder text = new StringBuilder();
        for (int c : row) {
            text.append(text.length() == 0 ? "" : " ").append(c);
        }
        return text.toString();
    }

    private static void riffled() {
        sentence("0 by a RIFFLE: the PACK of n CARDS is parted into its upper half (n / 2, cut) and its lower one; "
            + "then by turns the first of the lower one, the first of the upper one, and so on; what is left over comes last.");
        String[] due = {"", "0", "1 0", "1 0 2", "2 0 3 1", "2 0 3 1 4", "3 0 4 1 5 2", "3 0 4 1 5 2 6", "4 0 5 1 6 2 7 3",
            "4 0 5 1 6 2 7 3 8", "5 0 6 1 7 2 8 3 9 4", "5 0 6 1 7 2 8 3 9 4 10", "6 0 7 1 8 2 9 3 10 4 11 5"};
        for (int n = 0; n <= 12; n++) {
            CardBecome x = packOfN(n);
            due("shuffle(0) of " + n, x.shuffle(0), n == 0 ? NONE : n / 2);
            duePack("riffled, of " + n, x, due[n]);
        }
    }

    private static void turned() {
        sentence("1 TURNED: the last becomes the first, and so on.");
        List<Integer> row = new ArrayList<>();
        for (int n = 0; n <= 12; n++) {
            CardBecome x = packOfN(n);
            due("shuffle(1) of " + n, x.shuffle(1), n - 1);
            duePack("turned, of " + n, x, words(row));
            row.add(0, n);
        }
    }

    private static void cut() {
        sentence("2 CUT: the top CARD goes below the PACK.");
        for (int n = 0; n <= 12; n++) {
            List<Integer> row = new ArrayList<>();
            for (int c = 0; c < n; c++) {
                row.add(c);
            }
            Collections.rotate(row, -1);
            CardBecome x = packOfN(n);
            due("shuffle(2) of " + n, x.shuffle(2), n == 0 ? NONE : n == 1 ? 0 : 1);
            duePack("cut, of " + n, x, words(row));
        }
    }

    private static void inDrawer() {
        sentence("DRAWER: a CARD that a PERSON IS is kept in it: it IS itself, the CARD is neither in the PACK nor anybody "
            + "(till it is taken OUT: below the PACK).");
        CardBecome x = with("r4 0 0;c5 0;c6 0;c7 0;p;p;");
        drawAll(x);
        due("drawer(0)", x.drawer(0), 0);
        due("person(0, 0)", x.person(0, 0), NONE);
        due("card(0, 2)", x.card(0, 2), NONE);
        due("card(0, 3)", x.card(0, 3), NONE);
        due("card(0, 4)", x.card(0, 4), 1);
        duePack("without it", x, "2");
        x.drawer(1);
        due("drawOne(1)", x.drawOne(1), 2);
        due("drawer(1): a second one", x.drawer(1), 2);
        due("told(7)", x.told(7), 7);
        due("out(1) to an empty pack", x.out(1), 1);
        due("out(2)", x.out(2), 2);
        due("out(0)", x.out(0), 3);
        duePack("of what was out", x, "1 2 0");
        due("card(0, 4)", x.card(0, 4), 0);
        CardBecome all = with(TWELVE);
        for (int c = 0; c < 12; c++) {
            all.drawOne(0);
            all.drawer(0);
        }
        due("told(7): all twelve", all.told(7), 4095);
        due("told(6)", all.told(6), 0);
        due("drawOne(0) with all in drawers", all.drawOne(0), NOT);
        due("missing(NONE): told ones in drawers are not missing", all.missing(NONE), 40);
    }

    private static void toldAll() {
        sentence("0 TRUMP (NONE without a TABLE), 1 L, 2 K, 3 CARDS, 4 PERSONS, 5 letters of THE TEXT, 6 CARDS in the PACK, "
            + "7 in DRAWERS (a SET of CARDS), 8 who IS a CARD (a SET of PERSONS), 9 RULER, 10 how many THE LOG has, 11 HELD, "
            + "12 what is SEEN, 13 entries of THE BOOK, 14 how many can be undone.");
        CardBecome x = with(TWELVE);
        dueTold("at first", x, 4, 0, 0, 12, 6, 0, 12, 0, 0, NONE, 0, 1023, 0, 0, 0);
        drawAll(x);
        x.drawer(5);
        x.drawer(3);
        x.drawOne(5);
        x.meet(0, 1);
        x.see(0, 1, 0);
        x.see(0, 1, 0);
        x.write(0, 0);
        x.write(0, 0);
        x.write(0, 0);
        feedAll(x, "rrrr");
        dueTold("behind all that", x, 4, 0, 0, 12, 6, 4, 5, 32 + 8, 55, 5, 1, 1 + 4 + 16 + 64 + 256, 2, 3, 10);
        CardBecome all = drawn(TWELVE);
        due("told(8): all six", all.told(8), 63);
        CardBecome none = new CardBecome();
        due("told(0) without a table", none.told(0), NONE);
    }

    private static void toldOutside() {
        sentence("14 how many can be undone. OUTSIDE.");
        int[] outside = {-1, 15, 16, LEAST, MOST};
        for (int what : outside) {
            due("told(" + what + ")", with(SEVEN).told(what), OUTSIDE);
            due("told(" + what + ") without a table", new CardBecome().told(what), OUTSIDE);
        }
    }

    private static void cardTells() {
        sentence("what = 0 rank, 1 suit, 2 its place in the PACK (NONE), 3 who IS it (NONE), 4 1 it is in a DRAWER, 0 not. UNKNOWN, OUTSIDE.");
        CardBecome x = with(TWELVE);
        for (int c = 0; c < 12; c++) {
            due("card(" + c + ", 0)", x.card(c, 0), c + 1);
            due("card(" + c + ", 2)", x.card(c, 2), c);
            due("card(" + c + ", 4)", x.card(c, 4), 0);
        }
        x.drawOne(0);
        due("card(0, 3)", x.card(0, 3), 0);
        x.undo();
        x.drawOne(5);
        due("card(0, 2) of what somebody is", x.card(0, 2), NONE);
        due("card(0, 3)", x.card(0, 3), 5);
        due("card(11, 2): the last", x.card(11, 2), 10);
        x.drawer(5);
        due("card(0, 2) in a drawer", x.card(0, 2), NONE);
        due("card(0, 3) in a drawer", x.card(0, 3), NONE);
        due("card(0, 4) in a drawer", x.card(0, 4), 1);
        int[] unknown = {-1, 12, 32, LEAST, MOST};
        for (int c : unknown) {
            due("card(" + c + ", 0)", x.card(c, 0), UNKNOWN);
            due("card(" + c + ", 5)", x.card(c, 5), UNKNOWN);
        }
        int[] outside = {-1, 5, LEAST, MOST};
        for (int what : outside) {
            due("card(0, " + what + ")", x.card(0, what), OUTSIDE);
        }
        due("card(2, 0) of two", with("r0 0 0;c1 1;c2 1;").card(2, 0), UNKNOWN);
    }

    private static void packTells() {
        sentence("The CARD at a place of the PACK (0 on top); NONE.");
        CardBecome x = with(TWELVE);
        due("pack(0)", x.pack(0), 0);
        due("pack(11)", x.pack(11), 11);
        int[] none = {-1, 12, 13, LEAST, MOST};
        for (int place : none) {
            due("pack(" + place + ")", x.pack(place), NONE);
        }
        x.drawOne(0);
        due("pack(0) behind a draw", x.pack(0), 1);
        due("pack(10)", x.pack(10), 11);
        due("pack(11): none is left there", x.pack(11), NONE);
        due("pack(0) of an empty pack", with("r0 0 0;p;").pack(0), NONE);
    }

    private static void personTells() {
        sentence("Of a PERSON: what = 0 the CARD (NONE), 1 WINS, 2 BEATS (a SET). UNKNOWN, OUTSIDE.");
        CardBecome x = with(TWELVE);
        due("person(5, 0)", x.person(5, 0), NONE);
        due("person(5, 1)", x.person(5, 1), 0);
        due("person(5, 2)", x.person(5, 2), 0);
        drawAll(x);
        for (int p = 0; p < 6; p++) {
            due("person(" + p + ", 0)", x.person(p, 0), p);
            due("person(" + p + ", 2)", x.person(p, 2), (1 << p) - 1);
        }
        x.meet(5, 0);
        due("person(5, 1)", x.person(5, 1), 1);
        due("person(0, 1)", x.person(0, 1), 0);
        int[] unknown = {-1, 6, 7, LEAST, MOST};
        for (int p : unknown) {
            due("person(" + p + ", 0)", x.person(p, 0), UNKNOWN);
            due("person(" + p + ", 3)", x.person(p, 3), UNKNOWN);
        }
        int[] outside = {-1, 3, LEAST, MOST};
        for (int what : outside) {
            due("person(0, " + what + ")", x.person(0, what), OUTSIDE);
        }
        due("person(1, 0) of one", with("r0 0 0;p;").person(1, 0), UNKNOWN);
    }

    private static void loggedTells() {
        sentence("Of THE LOG, 0 the latest: what = 0 the first, 1 the second, 2 who won (NONE: neither); NONE. OUTSIDE (what).");
        CardBecome x = with("r4 0 0;c5 0;p;p;p;");
        due("logged(0, 0) of an empty log", x.logged(0, 0), NONE);
        due("logged(0, 3) of an empty log", x.logged(0, 3), OUTSIDE);
        x.drawOne(2);
        x.meet(0, 2);
        x.meet(1, 0);
        due("logged(0, 0)", x.logged(0, 0), 1);
        due("logged(0, 1)", x.logged(0, 1), 0);
        due("logged(0, 2)", x.logged(0, 2), NONE);
        due("logged(1, 0)", x.logged(1, 0), 0);
        due("logged(1, 1)", x.logged(1, 1), 2);
        due("logged(1, 2)", x.logged(1, 2), 2);
        int[] none = {-1, 2, 23, 24, LEAST, MOST};
        for (int i : none) {
            due("logged(" + i + ", 0)", x.logged(i, 0), NONE);
            due("logged(" + i + ", 3)", x.logged(i, 3), OUTSIDE);
        }
        int[] outside = {-1, 3, LEAST, MOST};
        for (int what : outside) {
            due("logged(0, " + what + ")", x.logged(0, what), OUTSIDE);
        }
    }

    private static void drawOneRefused() {
        sentence("DRAWN: the CARD. UNKNOWN, NOT: it IS one, the PACK is empty.");
        CardBecome x = with("r4 0 0;c5 0;c6 0;p;p;p;");
        due("drawOne(0)", x.drawOne(0), 0);
        due("drawOne(0) of one who is a card", x.drawOne(0), NOT);
        due("drawOne(1): the last card", x.drawOne(1), 1);
        due("drawOne(2) of an empty pack", x.drawOne(2), NOT);
        due("drawOne(0) of both", x.drawOne(0), NOT);
        due("drawOne(3)", x.drawOne(3), UNKNOWN);
        due("drawOne(-1)", x.drawOne(-1), UNKNOWN);
        due("told(14)", x.told(14), 2);
        due("drawOne(0) of no cards at all", with("r4 0 0;p;").drawOne(0), NOT);
    }

    private static void getBackRefused() {
        sentence("GOT BACK: the CARD. UNKNOWN, NOT: it IS none.");
        CardBecome x = with("r4 0 0;c5 0;p;p;");
        due("getBack(0)", x.getBack(0), NOT);
        x.drawOne(0);
        due("getBack(1)", x.getBack(1), NOT);
        due("getBack(2)", x.getBack(2), UNKNOWN);
        due("getBack(-1)", x.getBack(-1), UNKNOWN);
        due("getBack(0)", x.getBack(0), 0);
        due("getBack(0) again", x.getBack(0), NOT);
        x.drawOne(0);
        x.drawer(0);
        due("getBack(0) of what is in a drawer", x.getBack(0), NOT);
        due("told(14)", x.told(14), 4);
    }

    private static void metWho() {
        sentence("MET: who won; NONE. UNKNOWN.");
        CardBecome x = drawn("r4 0 0;c5 0;c6 0;c5 1;p;p;p;p;");
        due("meet(0, 1)", x.meet(0, 1), 1);
        due("meet(1, 0)", x.meet(1, 0), 1);
        due("meet(0, 3)", x.meet(0, 3), 0);
        due("meet(3, 0)", x.meet(3, 0), 0);
        due("meet(0, 2)", x.meet(0, 2), NONE);
        due("wins", winsOf(x), "2 2 0 0");
        due("meet(0, 0)", x.meet(0, 0), UNKNOWN);
        due("meet(0, 4)", x.meet(0, 4), UNKNOWN);
        due("meet(4, 0)", x.meet(4, 0), UNKNOWN);
        due("meet(4, 4)", x.meet(4, 4), UNKNOWN);
        due("meet(0, -1)", x.meet(0, -1), UNKNOWN);
        due("meet(-1, 0)", x.meet(-1, 0), UNKNOWN);
        due("told(10)", x.told(10), 5);
        due("told(14): neither counts as done too", x.told(14), 8);
    }

    private static void forceRefused() {
        sentence("FORCED: its place ahead of that. UNKNOWN, NOT: it is not in the PACK.");
        CardBecome x = with("r4 0 0;c5 0;c6 0;c7 0;p;");
        due("force(2)", x.force(2), 2);
        due("force(3)", x.force(3), UNKNOWN);
        due("force(-1)", x.force(-1), UNKNOWN);
        x.drawOne(0);
        due("force(2) of what somebody is", x.force(2), NOT);
        x.drawer(0);
        due("force(2) of what is in a drawer", x.force(2), NOT);
        x.out(2);
        due("force(2): it is below", x.force(2), 2);
        due("told(14)", x.told(14), 5);
    }

    private static void shuffleRefused() {
        sentence("SHUFFLED by k (0 .. 2): the CARD on top then (NONE). OUTSIDE, NOT: no TABLE.");
        CardBecome x = with(SEVEN);
        int[] outside = {-1, 3, LEAST, MOST};
        for (int k : outside) {
            due("shuffle(" + k + ")", x.shuffle(k), OUTSIDE);
            due("shuffle(" + k + ") without a table", new CardBecome().shuffle(k), OUTSIDE);
        }
        due("told(14)", x.told(14), 0);
        CardBecome empty = with("r4 0 0;");
        for (int k = 0; k <= 2; k++) {
            due("shuffle(" + k + ") without a table", new CardBecome().shuffle(k), NOT);
            due("shuffle(" + k + ") of an empty pack", empty.shuffle(k), NONE);
            due("told(14): it is done", empty.told(14), k + 1);
        }
    }

    private static void drawerRefused() {
        sentence("DRAWER: the CARD. UNKNOWN, NOT: it IS none.");
        CardBecome x = with("r4 0 0;c5 0;c6 0;p;p;");
        due("drawer(0)", x.drawer(0), NOT);
        x.drawOne(1);
        due("drawer(0)", x.drawer(0), NOT);
        due("drawer(2)", x.drawer(2), UNKNOWN);
        due("drawer(-1)", x.drawer(-1), UNKNOWN);
        due("drawer(1)", x.drawer(1), 0);
        due("drawer(1) again", x.drawer(1), NOT);
        due("told(14)", x.told(14), 2);
    }

    private static void outOf() {
        sentence("OUT of the DRAWER: CARDS in the PACK. UNKNOWN, NOT: it is in none.");
        CardBecome x = with("r4 0 0;c5 0;c6 0;p;p;");
        due("out(0) of the pack", x.out(0), NOT);
        drawAll(x);
        due("out(0) of who is it", x.out(0), NOT);
        x.drawer(0);
        due("out(1) of who is it", x.out(1), NOT);
        due("out(2)", x.out(2), UNKNOWN);
        due("out(-1)", x.out(-1), UNKNOWN);
        due("out(32)", x.out(32), UNKNOWN);
        due("out(0)", x.out(0), 1);
        due("out(0) again", x.out(0), NOT);
        due("told(14)", x.told(14), 4);
        CardBecome twelve = with(TWELVE);
        twelve.drawOne(0);
        twelve.drawer(0);
        due("out(0): all twelve", twelve.out(0), 12);
    }

    private static void drifts() {
        sentence("n times (1 .. 60) BY DRAWS: who IS a CARD. OUTSIDE, NOT: no TABLE.");
        int[] outside = {0, -1, 61, LEAST, MOST};
        CardBecome x = with(SEVEN);
        for (int n : outside) {
            due("drift(" + n + ")", x.drift(n), OUTSIDE);
            due("drift(" + n + ") without a table", new CardBecome().drift(n), OUTSIDE);
        }
        due("told(14)", x.told(14), 0);
        due("seed(0)", x.seed(0), 0);
        due("drift(1) without a table", new CardBecome().drift(1), NOT);
        due("drift(60) without a table", new CardBecome().drift(60), NOT);
        int[] many = {1, 2, 59, 60};
        for (int n : many) {
            CardBecome once = with(SEVEN);
            CardBecome byOne = with(SEVEN);
            int last = NONE;
            for (int i = 0; i < n; i++) {
                last = byOne.drift(1);
            }
            due("drift(" + n + ")", once.drift(n), last);
            due("told(8)", once.told(8), last);
            due("the pack", packOf(once), packOf(byOne));
            due("who is what", isOf(once), isOf(byOne));
            due("wins", winsOf(once), winsOf(byOne));
            due("told(10)", once.told(10), byOne.told(10));
            due("told(14)", once.told(14), 1);
            due("seed(0)", once.seed(0), byOne.seed(0));
        }
    }

    private static long next(long seed) {
        return (seed * 1103515245L + 12345L) % (1L << 31);
    }

    /** The least seed whose draws of four persons, of five, and of the third number are these. */
    private static int seedOf(int person, int kind, int third, int thirdOf) {
        for (int seed = 0; seed < 1000000; seed++) {
            long one = next(seed);
            long two = next(one);
            long three = next(two);
            if (one / 65536 % 4 == person && two / 65536 % 5 == kind && three / 65536 % thirdOf == third) {
                return seed;
            }
        }
        return NONE;
    }

    private static void driftSteps() {
        sentence("a DRAW of PERSONS, of 5: on 0 and 1 it has DRAWN, on 2 it is GOT BACK, on 3 it MET another PERSON by a DRAW of PERSONS, "
            + "if unlike, if these can be; on 4 the PACK is SHUFFLED by a DRAW of 3.");
        for (int p = 0; p < 4; p++) {
            CardBecome x = with(SEVEN);
            x.seed(seedOf(p, 0, 0, 4));
            due("drift(1): drawn on 0", x.drift(1), 1 << p);
            x.seed(seedOf(p, 2, 0, 4));
            due("drift(1): got back on 2", x.drift(1), 0);
            duePack("with the first below", x, "1 2 3 4 5 6 0");
            x.seed(seedOf(p, 1, 0, 4));
            due("drift(1): drawn on 1", x.drift(1), 1 << p);
            due("person(" + p + ", 0)", x.person(p, 0), 1);
            for (int q = 0; q < 4; q++) {
                int met = x.told(10);
                x.seed(seedOf(p, 3, q, 4));
                x.drift(1);
                due("told(10): met on 3, if unlike", x.told(10), p == q ? met : met + 1);
                if (p != q) {
                    due("logged(0, 0)", x.logged(0, 0), p);
                    due("logged(0, 1)", x.logged(0, 1), q);
                    due("logged(0, 2)", x.logged(0, 2), p);
                }
            }
            due("person(" + p + ", 1)", x.person(p, 1), 3);
            String[] shuffled = {"5 2 6 3 0 4", "4 0 3 6 2 5", "0 3 6 2 5 4"};
            for (int k = 0; k < 3; k++) {
                x.seed(seedOf(p, 4, k, 3));
                due("drift(1): shuffled on 4", x.drift(1), 1 << p);
                duePack("by " + k, x, shuffled[k]);
            }
        }
    }

    private static void driftWhatCannotBe() {
        sentence("if these can be;");
        CardBecome x = with("r4 0 0;c5 0;p;p;p;p;");
        x.seed(seedOf(0, 2, 0, 4));
        due("drift(1): who is itself is not got back", x.drift(1), 0);
        duePack("as it was", x, "0");
        x.drawOne(0);
        x.seed(seedOf(0, 0, 0, 4));
        due("drift(1): who is a card does not draw", x.drift(1), 1);
        x.seed(seedOf(1, 1, 0, 4));
        due("drift(1): nobody draws of an empty pack", x.drift(1), 1);
        dueIs("as it was", x, "0 -1 -1 -1");
        for (int k = 0; k < 3; k++) {
            x.seed(seedOf(1, 4, k, 3));
            due("drift(1): an empty pack is shuffled", x.drift(1), 1);
        }
        due("told(6)", x.told(6), 0);
        due("told(14): each can be undone, though nothing was", x.told(14), 7);
        x.seed(seedOf(1, 3, 2, 4));
        x.drift(1);
        due("told(10): two who are themselves meet", x.told(10), 1);
        due("logged(0, 2)", x.logged(0, 2), NONE);
        CardBecome one = with("r4 0 0;c5 0;p;");
        one.drift(60);
        one.drift(60);
        due("told(10): one alone meets nobody", one.told(10), 0);
        CardBecome draws = with("r4 0 0;c5 0;p;");
        draws.seed(seedOf(0, 0, 0, 4));
        due("drift(1): one alone draws", draws.drift(1), 1);
    }

    private static void driftWithoutPersons() {
        sentence("n times, if there are PERSONS:");
        CardBecome x = with("r4 0 0;c5 0;c6 0;c7 0;");
        x.seed(9);
        due("drift(60)", x.drift(60), 0);
        duePack("as it was", x, "0 1 2");
        due("seed(0): no draw", x.seed(0), 9);
    }

    private static void seedGoesOn() {
        sentence("each DRAW it becomes it times 1103515245 and 12345, left over by 2 to the 31; the DRAW of n is it / 65536, left over by n)");
        int[] seeds = {0, 1, 2, 65535, 65536, 1 << 30, MOST - 1, MOST};
        for (int seed : seeds) {
            CardBecome x = with("r4 0 0;c5 0;c6 0;p;p;p;p;");
            x.seed(seed);
            long then = seed;
            for (int step = 0; step < 40; step++) {
                then = next(next(then));
                if (then / 65536 % 5 >= 3) {
                    then = next(then);
                }
                x.drift(1);
                due("the seed from " + seed + " behind " + (step + 1), x.seed((int) then), (int) then);
            }
        }
    }

    private static int doOne(CardBecome x, int kind) {
        switch (kind) {
            case 0: return x.drawOne(2);
            case 1: return x.getBack(0);
            case 2: return x.meet(0, 2);
            case 3: return x.force(5);
            case 4: return x.shuffle(0);
            case 5: return x.drawer(0);
            case 6: return x.out(1);
            default: return x.drift(30);
        }
    }

    private static void undoneAreThese() {
        sentence("the latest of drawOne(), getBack(), meet(), force(), shuffle(), drawer(), out(), drift() that was not refused");
        for (int kind = 0; kind < 8; kind++) {
            CardBecome x = with(SEVEN);
            x.drawOne(0);
            x.drawOne(1);
            x.drawer(1);
            x.meet(0, 1);
            String was = sectionTwo(x);
            due("told(14)", x.told(14), 4);
            due("kind " + kind + " is not refused", doOne(x, kind) >= NONE ? 1 : 0, 1);
            due("told(14) behind kind " + kind, x.told(14), 5);
            due("kind " + kind + " changes something", sectionTwo(x).equals(was) ? 1 : 0, 0);
            x.drawOne(9);
            x.getBack(-1);
            x.meet(1, 1);
            x.force(7);
            x.shuffle(3);
            x.drawer(9);
            x.out(6);
            x.drift(0);
            x.see(0, 1, 2);
            x.write(0, 0);
            x.tear();
            x.feed(' ');
            due("undo() of kind " + kind, x.undo(), 4);
            due("all of section 2 behind undo() of kind " + kind, sectionTwo(x), was);
        }
    }

    private static void undoneSixteen() {
        sentence("(16 at most are kept, the oldest are lost)");
        int[] many = {15, 16, 17, 31, 32, 33, 53};
        for (int done : many) {
            CardBecome x = with("r4 0 0;c1 1;c2 1;c3 1;c4 1;c5 1;c6 1;c7 1;c8 1;c9 1;c10 1;c11 1;p;");
            for (int i = 0; i < done; i++) {
                x.shuffle(2);
                due("told(14)", x.told(14), Math.min(16, i + 1));
            }
            int kept = Math.min(16, done);
            for (int i = kept - 1; i >= 0; i--) {
                due("undo()", x.undo(), i);
                due("pack(0) behind undo()", x.pack(0), (done - kept + i) % 11);
            }
            due("undo() of what is lost", x.undo(), NOT);
            due("pack(0)", x.pack(0), (done - kept) % 11);
        }
        CardBecome again = with(SEVEN);
        for (int i = 0; i < 20; i++) {
            again.shuffle(2);
        }
        again.undo();
        again.undo();
        again.shuffle(1);
        due("told(14): what was undone makes room", again.told(14), 15);
        again.undo();
        due("pack(0)", again.pack(0), 18 % 7);
    }

    private static void undoneAll() {
        sentence("all of section 2 is as ahead of it; THE SEED stays.");
        CardBecome x = with(SEVEN);
        drawAll(x);
        x.drawer(3);
        x.meet(0, 1);
        String was = sectionTwo(x);
        x.seed(5);
        x.drift(60);
        int seed = x.seed(0);
        due("the seed went on", seed == 5 ? 1 : 0, 0);
        x.seed(seed);
        x.see(0, 1, 0);
        x.write(1, 1);
        due("undo()", x.undo(), 6);
        due("all of section 2", sectionTwo(x), was);
        due("seed(0): it stays", x.seed(0), seed);
        due("told(12): of section 3, it stays", x.told(12), 1);
        due("told(13): of section 3, it stays", x.told(13), 1);
    }

    private static void undoRefused() {
        sentence("The latest is undone: how many more can be. NOT: none.");
        CardBecome x = new CardBecome();
        due("undo() without a table", x.undo(), NOT);
        lay(x, SEVEN);
        due("undo() of nothing done", x.undo(), NOT);
        x.drawOne(0);
        x.drawOne(1);
        due("undo()", x.undo(), 1);
        due("undo()", x.undo(), 0);
        due("undo()", x.undo(), NOT);
        x.drawOne(0);
        x.keep(0);
        due("undo() behind keep()", x.undo(), NOT);
        x.drawOne(1);
        x.goBack(0);
        due("undo() behind goBack()", x.undo(), NOT);
        x.drawOne(1);
        lay(x, SEVEN);
        due("undo() behind table()", x.undo(), NOT);
    }
}
