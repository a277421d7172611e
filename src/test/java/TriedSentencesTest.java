import java.util.ArrayList;
import java.util.Collections;
import java.util.List;

/** Section 3 of the document and promises 19 to 27, sentence by sentence: what is tried from now. */
public final class TriedSentencesTest extends Sentences {
    public static void main(String[] args) {
        beatsSet();
        rulers();
        ringsTold();
        ringsRefused();
        orders();
        ordersWithFewCards();
        orderOfNobody();
        orderUnknown();
        rows();
        rowsRefused();
        held();
        heldByLog();
        tellsBest();
        tellsOfLikeOnes();
        tellsNone();
        odds();
        oddsUnknown();
        back();
        backRefused();
        missing();
        missingRefused();
        wanted();
        wantedOutside();
        beatsOfCards();
        end();
    }

    private static void beatsSet() {
        sentence("BEATS: PERSONS (a SET) that a PERSON BEATS.");
        CardBecome x = with("r4 1 0;c1 0;c5 1;c5 2;c13 3;p;p;p;p;p;p;");
        drawAll(x);
        int[] due = {62, 56, 56, 48, 0, 0};
        for (int p = 0; p < 6; p++) {
            due("person(" + p + ", 2)", x.person(p, 2), due[p]);
        }
        due("person(0, 2) of one alone", drawn("r4 0 0;c5 0;p;").person(0, 2), 0);
    }

    private static void rulers() {
        sentence("RULER: who BEATS most; of like ones the least; NONE: nobody any.");
        due("told(9) without persons", with("r4 0 0;c5 0;").told(9), NONE);
        due("told(9) of one alone", drawn("r4 0 0;c5 0;p;").told(9), NONE);
        CardBecome x = with("r4 0 0;c5 0;c5 1;c6 0;c6 1;p;p;p;p;p;");
        due("told(9) of themselves", x.told(9), NONE);
        x.drawOne(4);
        due("told(9) of one card", x.told(9), 4);
        x.drawOne(2);
        due("told(9) of like ones", x.told(9), 2);
        x.drawOne(3);
        due("told(9) of who beats most", x.told(9), 3);
        x.drawOne(1);
        due("told(9) of like ones who beat most", x.told(9), 1);
        due("told(9) of like ranks alone", drawn("r4 0 0;c5 0;c5 1;c5 2;p;p;p;").told(9), NONE);
        due("told(9): the last of six", drawn(TWELVE).told(9), 5);
        due("told(9): the first of two, who beats one", drawn("r4 1 0;c5 0;c6 0;p;p;").told(9), 0);
        due("told(9): the first of three", drawn("r4 1 0;c5 0;c6 0;c7 0;p;p;p;").told(9), 0);
    }

    private static void ringsTold() {
        sentence("RINGS: triples of PERSONS (100 times the least, 10 times whom it BEATS, and whom that one BEATS, who BEATS the least): "
            + "how many; the i-th (rising); NONE.");
        // Queens of 1, 2, 3 beat the knave of 0, he the king of 0, he the queens; the queen of 0 beats none of these.
        CardBecome x = with("r4 0 1;c12 1;c12 2;c11 0;c12 3;c13 0;c12 0;p;p;p;p;p;p;");
        due("rings(NONE) of themselves", x.rings(NONE), 0);
        due("rings(0) of themselves", x.rings(0), NONE);
        drawAll(x);
        due("rings(NONE)", x.rings(NONE), 3);
        due("rings(0)", x.rings(0), 24);
        due("rings(1)", x.rings(1), 124);
        due("rings(2)", x.rings(2), 243);
        due("rings(3)", x.rings(3), NONE);
        x.getBack(3);
        due("rings(NONE) of five", x.rings(NONE), 2);
        due("rings(2) of five", x.rings(2), NONE);
        x.drawer(4);
        due("rings(NONE) without the king", x.rings(NONE), 0);
        CardBecome both = drawn("r4 0 1;c11 0;c11 1;c12 0;c12 1;c13 0;c13 1;p;p;p;p;p;p;");
        due("rings(NONE) of two knaves", both.rings(NONE), 2);
        due("rings(0)", both.rings(0), 43);
        due("rings(1)", both.rings(1), 152);
        due("rings(2)", both.rings(2), NONE);
        due("rings(NONE) of two persons", drawn("r4 0 1;c11 0;c12 1;c13 0;p;p;").rings(NONE), 0);
        due("rings(0): each beats the next", drawn("r4 0 1;c13 0;c12 1;c11 0;p;p;p;").rings(0), 12);
        due("rings(0): each beats the one ahead", drawn("r4 0 1;c11 0;c12 1;c13 0;p;p;p;").rings(0), 21);
        due("rings(0): the last three of six", drawn("r4 0 1;c1 1;c1 2;c1 3;c13 0;c12 1;c11 0;p;p;p;p;p;p;").rings(0), 345);
        due("rings(NONE) without a table", new CardBecome().rings(NONE), 0);
    }

    private static void ringsRefused() {
        sentence("RINGS: i = NONE how many, else the i-th; NONE.");
        CardBecome x = drawn("r4 0 1;c11 0;c12 1;c13 0;p;p;p;");
        int[] none = {1, 2, -2, LEAST, MOST};
        for (int i : none) {
            due("rings(" + i + ")", x.rings(i), NONE);
        }
        due("rings(0)", x.rings(0), 21);
        due("rings(NONE)", x.rings(NONE), 1);
    }

    private static void orders() {
        sentence("ORDER so that PERSONS of a SET each BEAT all others that are not of it:");
        CardBecome x = with("r4 0 0;c2 0;c9 0;c5 0;p;p;p;");
        due("order(1): 0 has the second card", x.order(1), 213);
        due("order(2)", x.order(2), 123);
        due("order(4)", x.order(4), 132);
        due("order(3): 2 has the first card", x.order(3), 312);
        due("order(5)", x.order(5), 213);
        due("order(6)", x.order(6), 123);
        due("order(0): nobody of it", x.order(0), 123);
        due("order(7): no others", x.order(7), 123);
        duePack("as it was", x, "0 1 2");
        dueIs("as it was", x, "-1 -1 -1");
        x.drawOne(1);
        due("order(1): who is a card stays it", x.order(1), 13);
        due("order(2): the least card has been drawn", x.order(2), NONE);
        due("order(5)", x.order(5), 13);
        due("order(4)", x.order(4), 31);
        CardBecome six = with(TWELVE);
        due("order(63)", six.order(63), 123456);
        due("order(1): 0 is last", six.order(1), 234561);
        due("order(31): 5 is first", six.order(31), 612345);
        due("order(32)", six.order(32), 123456);
        due("order(7)", six.order(7), 456123);
        due("order(56)", six.order(56), 123456);
        CardBecome alike = with("r4 0 0;c5 0;c5 1;p;p;");
        due("order(1) of like ranks", alike.order(1), NONE);
        due("order(3) of like ranks", alike.order(3), 12);
    }

    private static void ordersWithFewCards() {
        sentence("all who ARE themselves DRAW one after the other from the PACK as it is, as long as it has CARDS: "
            + "the first order of those who DRAW one (as figures, each 1 more than the PERSON; the least number) by which it is so;");
        CardBecome one = with("r4 0 0;c2 0;p;p;p;");
        due("order(1) with one card", one.order(1), 1);
        due("order(2) with one card", one.order(2), 2);
        due("order(4) with one card", one.order(4), 3);
        due("order(3) with one card", one.order(3), NONE);
        due("order(7) with one card", one.order(7), 1);
        due("order(0) with one card", one.order(0), 1);
        CardBecome two = with("r4 0 0;c2 0;c9 0;p;p;p;p;");
        due("order(8) with two cards: the higher one", two.order(8), 14);
        due("order(1) with two cards: the higher one", two.order(1), 21);
        due("order(12) with two cards", two.order(12), 34);
        due("order(14) with two cards", two.order(14), NONE);
        two.drawOne(3);
        due("order(8): all of them draw, so one beats it", two.order(8), NONE);
        due("order(9): two are of it", two.order(9), 1);
        due("order(2)", two.order(2), 2);
        CardBecome more = with("r4 0 0;c9 0;c2 0;c1 0;p;p;");
        due("order(1) with more cards than persons", more.order(1), 12);
        due("order(2) with more cards than persons", more.order(2), 21);
        more.shuffle(1);
        due("order(1) of the pack as it is", more.order(1), 21);
        CardBecome alone = with("r4 0 0;c2 0;p;");
        due("order(0) of one alone: it draws", alone.order(0), 1);
        due("order(1) of one alone: it draws", alone.order(1), 1);
    }

    private static void orderOfNobody() {
        sentence("0: nobody has to DRAW, and it is so; NONE.");
        CardBecome x = drawn("r4 0 0;c2 0;c9 0;c5 0;c7 0;p;p;p;");
        due("order(2)", x.order(2), 0);
        due("order(6)", x.order(6), 0);
        due("order(1)", x.order(1), NONE);
        due("order(0)", x.order(0), 0);
        due("order(7)", x.order(7), 0);
        CardBecome empty = drawn("r4 0 0;c2 0;p;p;");
        due("order(1) of an empty pack", empty.order(1), 0);
        due("order(2) of an empty pack", empty.order(2), NONE);
        CardBecome nobody = with("r4 0 0;c2 0;");
        due("order(0) without persons", nobody.order(0), 0);
        due("order(0) without a table", new CardBecome().order(0), 0);
    }

    private static void orderUnknown() {
        sentence("`int order(int set)`: ORDER; NONE. UNKNOWN.");
        int[] unknown = {8, 9, 15, 16, -1, -8, 1 << 30, LEAST, MOST};
        for (int set : unknown) {
            due("order(" + set + ") of three", with("r4 0 0;c2 0;p;p;p;").order(set), UNKNOWN);
        }
        due("order(64) of six", with(TWELVE).order(64), UNKNOWN);
        due("order(1) of nobody", with("r4 0 0;c2 0;").order(1), UNKNOWN);
        due("order(-1) without a table", new CardBecome().order(-1), UNKNOWN);
    }

    private static List<Integer> shuffled(List<Integer> pack, int kind) {
        List<Integer> then = new ArrayList<>(pack);
        if (kind == 1) {
            Collections.reverse(then);
        } else if (kind == 2) {
            Collections.rotate(then, -1);
        } else {
            int half = pack.size() / 2;
            then.clear();
            for (int i = 0; i < pack.size() - half; i++) {
                then.add(pack.get(half + i));
                if (i < half) {
                    then.add(pack.get(i));
                }
            }
        }
        return then;
    }

    /** For each place the first of the shortest rows that bring card c there, or null: rows of rising length, in rising order. */
    private static String[] shortest(int n, int c) {
        List<Integer> pack = new ArrayList<>();
        for (int i = 0; i < n; i++) {
            pack.add(i);
        }
        String[] found = new String[12];
        List<String> rows = List.of("");
        for (int length = 0; length <= 10; length++) {
            List<String> longer = new ArrayList<>();
            for (String row : rows) {
                List<Integer> then = pack;
                for (char kind : row.toCharArray()) {
                    then = shuffled(then, kind - '0');
                }
                if (found[then.indexOf(c)] == null) {
                    found[then.indexOf(c)] = row;
                    longer.addAll(List.of(row + "0", row + "1", row + "2"));
                }
            }
            rows = longer;
        }
        return found;
    }

    private static void rows() {
        sentence("ROW of SHUFFLES (10 at most) by which a CARD of the PACK comes to place k (0: the top): the shortest; of like ones the first "
            + "(by numbers of SHUFFLES): how many; the first of them; NONE.");
        for (int n = 1; n <= 12; n++) {
            CardBecome x = with(TWELVE);
            for (int c = n; c < 12; c++) {
                x.force(c);
                x.drawOne(0);
                x.drawer(0);
            }
            for (int c = 0; c < n; c++) {
                String[] due = shortest(n, c);
                for (int k = 0; k < 12; k++) {
                    String call = "row(" + c + ", " + k + ", .) of " + n + " ";
                    due(call + 0, x.row(c, k, 0), due[k] == null ? NONE : due[k].length());
                    due(call + 1, x.row(c, k, 1), due[k] == null || due[k].isEmpty() ? NONE : due[k].charAt(0) - '0');
                }
            }
        }
    }

    private static void rowsRefused() {
        sentence("ROW: what = 0 how many, 1 the first (none: NONE); NONE. UNKNOWN, OUTSIDE (k 0 .. 11, what), NOT: it is not in the PACK.");
        CardBecome x = with("r4 0 0;c1 0;c2 0;c3 0;p;");
        due("row(1, 1, 0): it is there", x.row(1, 1, 0), 0);
        due("row(1, 1, 1): none", x.row(1, 1, 1), NONE);
        due("row(1, 3, 0): no such place", x.row(1, 3, 0), NONE);
        due("row(1, 11, 0): no such place", x.row(1, 11, 0), NONE);
        due("row(1, 11, 1): no such place", x.row(1, 11, 1), NONE);
        int[] outside = {-1, 12, LEAST, MOST};
        for (int k : outside) {
            due("row(0, " + k + ", 0)", x.row(0, k, 0), OUTSIDE);
            due("row(3, " + k + ", 0)", x.row(3, k, 0), UNKNOWN);
        }
        int[] whats = {-1, 2, LEAST, MOST};
        for (int what : whats) {
            due("row(0, 0, " + what + ")", x.row(0, 0, what), OUTSIDE);
            due("row(-1, 0, " + what + ")", x.row(-1, 0, what), UNKNOWN);
        }
        x.drawOne(0);
        due("row(0, 0, 0) of who is it", x.row(0, 0, 0), NOT);
        due("row(0, 12, 0) of who is it", x.row(0, 12, 0), OUTSIDE);
        due("row(0, 0, 2) of who is it", x.row(0, 0, 2), OUTSIDE);
        x.drawer(0);
        due("row(0, 0, 1) of a drawer", x.row(0, 0, 1), NOT);
        due("row(1, 2, 0): places of two", x.row(1, 2, 0), NONE);
    }

    private static void held() {
        sentence("HELD: of ten RULES (2 times TRUMP, 0 .. 4, and L; K as told) those (a SET)");
        due("told(11) without a table", new CardBecome().told(11), 1023);
        for (int rule = 0; rule < 10; rule++) {
            // A 5 and a 7 of each suit: when one of them has met all others, just the rule that is told is held.
            StringBuilder text = new StringBuilder("r" + rule / 2 + " " + rule % 2 + " 0;");
            for (int suit = 0; suit < 4; suit++) {
                text.append("c5 ").append(suit).append(";c7 ").append(suit).append(";");
            }
            CardBecome x = with(text + "p;p;");
            due("told(11) at first", x.told(11), 1023);
            for (int c = 1; c < 8; c++) {
                x.force(0);
                x.drawOne(0);
                x.force(c);
                x.drawOne(1);
                x.meet(0, 1);
                x.getBack(0);
                x.getBack(1);
            }
            due("told(11) of rule " + rule, x.told(11), 1 << rule);
        }
        CardBecome knave = drawn("r4 0 1;c11 0;c13 0;p;p;");
        knave.meet(0, 1);
        due("told(11): K is as told, 1", knave.told(11), 1023);
        knave.meet(1, 0);
        due("told(11): the knave is the second", knave.told(11), 1023);
        CardBecome no = drawn("r4 0 0;c11 0;c13 0;p;p;");
        no.meet(0, 1);
        due("told(11): K is as told, 0", no.told(11), 1 + 4 + 16 + 64 + 256);
    }

    private static void heldByLog() {
        sentence("by which all MEETINGS of THE LOG in which both WERE CARDS ended as they did.");
        CardBecome x = with("r4 0 0;c5 0;c6 0;p;p;p;");
        x.meet(0, 1);
        due("told(11): both were themselves", x.told(11), 1023);
        x.drawOne(0);
        x.meet(0, 1);
        due("told(11): one was itself", x.told(11), 1023);
        x.meet(1, 0);
        due("told(11): one was itself", x.told(11), 1023);
        x.drawOne(1);
        x.meet(0, 1);
        due("told(11): both were cards", x.told(11), 341);
        x.getBack(0);
        x.getBack(1);
        for (int i = 0; i < 23; i++) {
            x.meet(0, 1);
        }
        due("told(11): it is the oldest of the log", x.told(11), 341);
        x.meet(0, 1);
        due("told(11): the log has lost it", x.told(11), 1023);
        x.undo();
        due("told(11): it is undone", x.told(11), 341);
    }

    private static void tellsBest() {
        sentence("TELLS: two CARDS (100 times the lesser and the other), by which of them BEATS (that, the other, neither) "
            + "these are told apart best: the greatest part that is alike is least;");
        // Of ten rules, two of one suit part as 5 and 5; two of like rank as 2, 2 and 6; two of unlike suit and rank as 5 and 5.
        CardBecome x = with("r4 0 0;c5 0;c5 1;c9 0;p;p;p;");
        due("tells() of ten", x.tells(), 2);
        drawAll(x);
        x.meet(0, 2);
        due("tells() of the five of the higher: like ranks part as 1, 1, 3", x.tells(), 1);
        CardBecome later = drawn("r4 0 0;c9 0;c5 1;c5 0;p;p;p;");
        later.meet(0, 2);
        due("tells(): 1, 1 and 3 is less than the 4 and 1 of earlier ones", later.tells(), 102);
        CardBecome far = with("r0 0 0;c2 0;c9 1;c9 2;c4 3;p;p;p;p;");
        drawAll(far);
        far.meet(0, 1);
        due("told(11)", far.told(11), 1 + 2 + 32 + 128 + 512);
        due("tells(): 2 and 3 of five", far.tells(), 203);
        far.drawer(2);
        far.drawer(3);
        due("tells(): cards wherever they are", far.tells(), 203);
    }

    private static void tellsOfLikeOnes() {
        sentence("of like ones the least; NONE: none parts them.");
        CardBecome x = with(TWELVE);
        due("tells(): all pairs part as 5 and 5", x.tells(), 1);
        CardBecome last = with("r4 0 1;c11 0;c2 0;p;p;");
        due("tells(): a knave of one suit parts none", last.tells(), NONE);
        CardBecome three = with("r4 0 1;c11 0;c2 0;c3 0;p;p;");
        due("tells(): the last two alone", three.tells(), 102);
    }

    private static void tellsNone() {
        sentence("`int tells()`: TELLS; NONE.");
        due("tells() without a table", new CardBecome().tells(), NONE);
        due("tells() without cards", with("r4 0 0;p;p;").tells(), NONE);
        due("tells() of one card", with("r4 0 0;c5 0;p;p;").tells(), NONE);
        due("tells() of two cards", with("r4 0 0;c5 0;c6 0;").tells(), 1);
        CardBecome x = drawn("r4 0 0;c5 0;c6 0;p;p;");
        x.meet(0, 1);
        due("tells(): these two have met", x.tells(), NONE);
    }

    private static void odds() {
        sentence("ODDS that a PERSON who DREW any CARD of the PACK, each as likely, would BEAT another one as it is: "
            + "a MILLION times how many / CARDS in the PACK (0 without).");
        CardBecome x = with("r4 0 0;c5 0;c1 0;c9 0;c9 1;c3 0;c8 0;c7 0;p;p;p;");
        due("odds(0, 1) against itself: all", x.odds(0, 1), 1000000);
        x.drawOne(1);
        due("odds(0, 1): four of six, cut", x.odds(0, 1), 666666);
        due("odds(1, 0): it is a card by now, the odds are of a draw", x.odds(1, 0), 1000000);
        due("odds(2, 1): of like persons", x.odds(2, 1), 666666);
        x.drawOne(0);
        due("odds(1, 0): all of five", x.odds(1, 0), 1000000);
        x.getBack(0);
        x.force(2);
        x.drawOne(0);
        due("odds(1, 0): none, like ranks neither", x.odds(1, 0), 0);
        due("odds(0, 1): three of five", x.odds(0, 1), 600000);
        CardBecome three = drawn("r4 0 0;c5 0;c4 0;c6 0;c3 0;p;");
        due("odds(0, 1) of one person", three.odds(0, 1), UNKNOWN);
        CardBecome third = with("r4 0 0;c5 0;c4 0;c6 0;c3 0;p;p;");
        third.drawOne(0);
        due("odds(1, 0): one of three, cut", third.odds(1, 0), 333333);
        CardBecome twelve = with("r4 0 0;c11 0;c1 0;c2 0;c3 0;c4 0;c5 0;c6 0;c7 0;c8 0;c9 0;c10 0;c12 0;p;p;");
        twelve.drawOne(0);
        due("odds(1, 0): one of eleven, cut", twelve.odds(1, 0), 90909);
        CardBecome last = drawn("r4 0 0;c5 0;c4 0;c6 0;p;p;");
        due("odds(1, 0): the one card that is left", last.odds(1, 0), 1000000);
        CardBecome empty = drawn("r4 0 0;c5 0;p;p;");
        due("odds(1, 0) of an empty pack", empty.odds(1, 0), 0);
        due("odds(0, 1) of an empty pack, against itself", empty.odds(0, 1), 0);
        due("odds(0, 1) without cards", with("r4 0 0;p;p;").odds(0, 1), 0);
    }

    private static void oddsUnknown() {
        sentence("`int odds(int p, int q)`: ODDS. UNKNOWN.");
        int[][] unknown = {{0, 0}, {1, 1}, {0, 4}, {4, 0}, {-1, 0}, {0, -1}, {LEAST, 0}, {0, MOST}, {4, 4}};
        for (int[] pair : unknown) {
            due("odds(" + pair[0] + ", " + pair[1] + ")", with(SEVEN).odds(pair[0], pair[1]), UNKNOWN);
        }
    }

    private static void back() {
        sentence("BACK: of a PERSON who IS a CARD: 1, if of all others more BEAT it than it BEATS; 0 not.");
        CardBecome x = drawn("r4 0 0;c2 0;c3 0;c4 0;c5 0;c6 0;p;p;p;p;p;");
        int[] due = {1, 1, 0, 0, 0};
        for (int p = 0; p < 5; p++) {
            due("back(" + p + ") of five", x.back(p), due[p]);
        }
        x.getBack(4);
        due("back(1): two and two", x.back(1), 0);
        due("back(0): three and one", x.back(0), 1);
        due("back(0) of one alone", drawn("r4 0 0;c2 0;p;").back(0), 0);
        CardBecome alike = drawn("r4 0 0;c2 0;c2 1;c3 0;p;p;p;");
        due("back(0): one and none, one like it", alike.back(0), 1);
        due("back(2)", alike.back(2), 0);
        CardBecome first = drawn("r4 0 0;c4 0;c3 0;c3 1;p;p;p;");
        due("back(1): the first alone beats it", first.back(1), 1);
        CardBecome last = drawn("r4 0 0;c3 0;c3 1;c4 0;p;p;p;");
        due("back(1): the last alone beats it", last.back(1), 1);
        CardBecome ring = drawn("r4 0 1;c11 0;c12 1;c13 0;p;p;p;");
        due("back(0) in a ring", ring.back(0), 0);
    }

    private static void backRefused() {
        sentence("BACK. UNKNOWN, NOT: it IS none.");
        CardBecome x = with("r4 0 0;c2 0;p;p;");
        x.drawOne(0);
        due("back(0)", x.back(0), 0);
        due("back(1) of one who is itself", x.back(1), NOT);
        due("back(2)", x.back(2), UNKNOWN);
        due("back(-1)", x.back(-1), UNKNOWN);
        x.drawer(0);
        due("back(0) with a drawer", x.back(0), NOT);
    }

    private static void missing() {
        sentence("MISSING: of all 52 (13 times the suit, and the rank less 1; rising) those that were not told: how many; the i-th; NONE.");
        CardBecome none = with("r4 0 0;");
        due("missing(NONE) of none told", none.missing(NONE), 52);
        for (int i = 0; i < 52; i++) {
            due("missing(" + i + ") of none told", none.missing(i), i);
            CardBecome x = with("r4 0 0;c" + (i % 13 + 1) + " " + i / 13 + ";");
            due("missing(NONE)", x.missing(NONE), 51);
            for (int k = 0; k < 52; k++) {
                due("missing(" + k + ") without " + i, x.missing(k), k < i ? k : k < 51 ? k + 1 : NONE);
            }
        }
        CardBecome ends = with("r4 0 0;c13 3;c1 0;p;p;");
        due("missing(NONE) without both ends", ends.missing(NONE), 50);
        due("missing(0)", ends.missing(0), 1);
        due("missing(49)", ends.missing(49), 50);
        due("missing(50)", ends.missing(50), NONE);
        drawAll(ends);
        ends.drawer(0);
        due("missing(NONE): a told one is not missing, wherever it is", ends.missing(NONE), 50);
        due("missing(NONE) of twelve", with(TWELVE).missing(NONE), 40);
    }

    private static void missingRefused() {
        sentence("MISSING: i = NONE how many, else the i-th; NONE. NOT: no TABLE.");
        int[] none = {-2, 52, 53, LEAST, MOST};
        for (int i : none) {
            due("missing(" + i + ")", with("r4 0 0;").missing(i), NONE);
            due("missing(" + i + ") without a table", new CardBecome().missing(i), NOT);
        }
        due("missing(NONE) without a table", new CardBecome().missing(NONE), NOT);
        due("missing(0) without a table", new CardBecome().missing(0), NOT);
    }

    private static void wanted() {
        sentence("WANTED: the PERSON who BEATS fewest others now (so would gain most, were it whatever is wanted each time); of like ones the least; "
            + "how many it does not BEAT; NONE without PERSONS.");
        CardBecome x = with("r4 0 0;c5 0;c6 0;c5 1;p;p;p;p;");
        due("wanted(0) of themselves", x.wanted(0), 0);
        due("wanted(1) of themselves", x.wanted(1), 3);
        x.drawOne(0);
        due("wanted(0) behind a draw", x.wanted(0), 1);
        due("wanted(1)", x.wanted(1), 3);
        x.drawOne(1);
        x.drawOne(2);
        due("wanted(0): the last", x.wanted(0), 3);
        x.drawer(1);
        due("wanted(0): of like ones the least", x.wanted(0), 1);
        CardBecome ring = drawn("r4 0 1;c11 0;c12 1;c13 0;p;p;p;");
        due("wanted(0) in a ring", ring.wanted(0), 0);
        due("wanted(1) in a ring: one is not beaten", ring.wanted(1), 1);
        CardBecome one = with("r4 0 0;c5 0;p;");
        due("wanted(0) of one alone", one.wanted(0), 0);
        due("wanted(1) of one alone", one.wanted(1), 0);
        due("wanted(0) of six", drawn(TWELVE).wanted(0), 0);
        due("wanted(1) of six", drawn(TWELVE).wanted(1), 5);
        due("wanted(0) without persons", with("r4 0 0;c5 0;").wanted(0), NONE);
        due("wanted(1) without persons", with("r4 0 0;c5 0;").wanted(1), NONE);
        due("wanted(1) without a table", new CardBecome().wanted(1), NONE);
    }

    private static void wantedOutside() {
        sentence("WANTED: what = 0 the PERSON, 1 by how many; NONE. OUTSIDE.");
        int[] outside = {-1, 2, LEAST, MOST};
        for (int what : outside) {
            due("wanted(" + what + ")", with(SEVEN).wanted(what), OUTSIDE);
            due("wanted(" + what + ") without persons", with("r4 0 0;").wanted(what), OUTSIDE);
            due("wanted(" + what + ") without a table", new CardBecome().wanted(what), OUTSIDE);
        }
    }

    private static void beatsOfCards() {
        sentence("1 a CARD BEATS another one, 2 the other one it, 0 neither. UNKNOWN.");
        CardBecome x = with("r4 0 0;c5 0;c6 0;c5 1;p;p;");
        due("beats(0, 1)", x.beats(0, 1), 2);
        due("beats(1, 0)", x.beats(1, 0), 1);
        due("beats(0, 2)", x.beats(0, 2), 0);
        drawAll(x);
        x.drawer(0);
        due("beats(0, 1) of cards wherever they are", x.beats(0, 1), 2);
        int[][] unknown = {{0, 0}, {2, 2}, {0, 3}, {3, 0}, {-1, 0}, {0, -1}, {LEAST, 0}, {0, MOST}, {3, 3}};
        for (int[] pair : unknown) {
            due("beats(" + pair[0] + ", " + pair[1] + ")", x.beats(pair[0], pair[1]), UNKNOWN);
        }
        due("beats(11, 10)", with(TWELVE).beats(11, 10), 1);
    }
}
