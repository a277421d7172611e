/** Section 3 of the document and promises 28 to 36, sentence by sentence: what is seen, the book, the seed, images. */
public final class SeenSentencesTest extends Sentences {
    public static void main(String[] args) {
        unseen();
        sixSeen();
        seeRefused();
        dealsAsSeen();
        dealsOfNone();
        sure();
        dealsRefused();
        askBest();
        askNone();
        askRefused();
        fifteenWritten();
        writeRefused();
        wrongOnes();
        torn();
        judged();
        seeds();
        seedAtFirst();
        images();
        kept();
        gone();
        end();
    }

    private static String table(int cards, int persons) {
        StringBuilder text = new StringBuilder("r4 0 0;");
        for (int c = 0; c < cards; c++) {
            text.append("c").append(c + 1).append(" 0;");
        }
        return text + "p;".repeat(persons);
    }

    private static void unseen() {
        sentence("UNSEEN: of the n CARDS (1 .. 5; all of the PACK, if it has fewer) on top of the PACK one each lies before PERSON 0, 1, and so on, "
            + "as long as there are CARDS and PERSONS, unlike ones; which before whom is not known.");
        for (int cards = 0; cards <= 7; cards++) {
            for (int persons = 0; persons <= 6; persons++) {
                for (int n = 1; n <= 5; n++) {
                    int lie = Math.min(n, cards);
                    int ways = 1;
                    for (int p = 0; p < Math.min(lie, persons); p++) {
                        ways *= lie - p;
                    }
                    due("deals(" + n + ", NONE) of " + cards + " before " + persons, with(table(cards, persons)).deals(n, NONE), ways);
                }
            }
        }
        CardBecome x = with(table(7, 1));
        x.force(6);
        due("deals(1, 0): the top", x.deals(1, 0), 6);
        x.drawOne(0);
        due("deals(1, 0): the top as it is now", x.deals(1, 0), 0);
    }

    private static void sixSeen() {
        sentence("SEEN (6 at most): of two PERSONS whose CARD BEATS the other one's (0 the first one's, 1 the second one's, 2 neither).");
        CardBecome x = with("r4 0 0;c5 0;c5 1;c6 0;p;p;p;");
        due("deals(3, NONE)", x.deals(3, NONE), 6);
        x.see(0, 1, 0);
        due("deals(3, NONE): 0 the first one's", x.deals(3, NONE), 2);
        due("deals(3, 0)", x.deals(3, 0), 2);
        x.tear();
        x.see(0, 1, 1);
        due("deals(3, NONE): 1 the second one's", x.deals(3, NONE), 2);
        due("deals(3, 1)", x.deals(3, 1), 2);
        x.tear();
        x.see(1, 0, 1);
        due("deals(3, 0): of 1 and 0", x.deals(3, 0), 2);
        x.tear();
        x.see(0, 1, 2);
        due("deals(3, NONE): 2 neither", x.deals(3, NONE), 2);
        due("deals(3, 2)", x.deals(3, 2), 2);
        for (int i = 2; i <= 6; i++) {
            due("see(0, 1, 2)", x.see(0, 1, 2), i);
        }
        due("a seventh", x.see(0, 1, 2), FULL);
        due("told(12)", x.told(12), 6);
        x.tear();
        due("see() behind tear()", x.see(0, 1, 2), 1);
        CardBecome last = with(table(5, 5));
        for (int i = 0; i < 5; i++) {
            last.see(0, 1, 0);
        }
        due("deals(2, 0)", last.deals(2, 0), 1);
        due("a sixth that contradicts", last.see(1, 0, 0), 6);
        due("deals(2, NONE): the sixth counts", last.deals(2, NONE), 0);
    }

    private static void seeRefused() {
        sentence("SEEN (who 0 .. 2): how much. UNKNOWN, OUTSIDE, FULL (6).");
        CardBecome x = with(SEVEN);
        for (int full = 0; full < 2; full++) {
            int[] outside = {-1, 3, LEAST, MOST};
            for (int who : outside) {
                due("see(0, 1, " + who + ")", x.see(0, 1, who), OUTSIDE);
                due("see(0, 4, " + who + ")", x.see(0, 4, who), UNKNOWN);
                due("see(1, 1, " + who + ")", x.see(1, 1, who), UNKNOWN);
            }
            int[][] unknown = {{0, 0}, {0, 4}, {4, 0}, {-1, 0}, {0, -1}, {4, 4}, {LEAST, MOST}};
            for (int[] pair : unknown) {
                due("see(" + pair[0] + ", " + pair[1] + ", 0)", x.see(pair[0], pair[1], 0), UNKNOWN);
            }
            due("told(12)", x.told(12), 6 * full);
            for (int i = 1; full == 0 && i <= 6; i++) {
                due("see(0, 3, 2)", x.see(0, 3, 2), i);
            }
        }
        due("see(0, 1, 0) of a seventh", x.see(0, 1, 0), FULL);
        due("told(14): it is not to be undone", x.told(14), 0);
    }

    private static void dealsAsSeen() {
        sentence("DEALS: ways by which all that is SEEN is so (if one of the two has none: never): how many;");
        CardBecome x = with(table(7, 6));
        x.see(0, 1, 0);
        due("deals(1, NONE): 1 has none", x.deals(1, NONE), 0);
        due("deals(2, NONE)", x.deals(2, NONE), 1);
        due("deals(3, NONE)", x.deals(3, NONE), 3);
        due("deals(5, NONE)", x.deals(5, NONE), 60);
        x.see(1, 2, 0);
        due("deals(2, NONE): 2 has none", x.deals(2, NONE), 0);
        due("deals(3, NONE): all that is seen", x.deals(3, NONE), 1);
        due("deals(5, NONE): all that is seen", x.deals(5, NONE), 20);
        x.see(2, 0, 0);
        due("deals(5, NONE): it can not be", x.deals(5, NONE), 0);
        x.tear();
        x.see(4, 5, 2);
        due("deals(5, NONE): 5 has none, not even neither", x.deals(5, NONE), 0);
        x.tear();
        x.see(5, 0, 1);
        due("deals(5, NONE): 5 has none", x.deals(5, NONE), 0);
        x.tear();
        due("deals(5, NONE): nothing seen", x.deals(5, NONE), 120);
        CardBecome is = drawn(table(7, 2));
        is.see(0, 1, 0);
        due("deals(2, NONE): by the cards that lie there, not by what they are", is.deals(2, NONE), 1);
        due("deals(2, 0)", is.deals(2, 0), 3);
    }

    private static void dealsOfNone() {
        sentence("as long as there are CARDS and PERSONS, unlike ones;");
        CardBecome empty = with("r4 0 0;p;p;");
        due("deals(5, NONE) of an empty pack", empty.deals(5, NONE), 1);
        due("deals(5, 0) of an empty pack", empty.deals(5, 0), NONE);
        empty.see(0, 1, 2);
        due("deals(5, NONE): neither has one", empty.deals(5, NONE), 0);
        due("deals(5, NONE) before nobody", with("r4 0 0;c1 0;c2 0;").deals(5, NONE), 1);
        due("deals(5, NONE) without a table", new CardBecome().deals(5, NONE), 1);
    }

    private static void sure() {
        sentence("SURE: the CARD of a PERSON that is the same in all; NONE.");
        CardBecome x = with(table(7, 4));
        due("deals(1, 0): the one card", x.deals(1, 0), 0);
        due("deals(1, 1): it has none", x.deals(1, 1), NONE);
        due("deals(2, 0): two ways", x.deals(2, 0), NONE);
        x.see(0, 1, 0);
        x.see(0, 2, 0);
        due("deals(3, NONE)", x.deals(3, NONE), 2);
        due("deals(3, 0): the same in both", x.deals(3, 0), 2);
        due("deals(3, 1): not the same", x.deals(3, 1), NONE);
        due("deals(3, 2): not the same", x.deals(3, 2), NONE);
        due("deals(3, 3): it has none", x.deals(3, 3), NONE);
        x.see(1, 2, 0);
        due("deals(3, 0)", x.deals(3, 0), 2);
        due("deals(3, 1)", x.deals(3, 1), 1);
        due("deals(3, 2)", x.deals(3, 2), 0);
        x.see(1, 2, 1);
        due("deals(3, 0) of no way", x.deals(3, 0), NONE);
        for (int p = 0; p < 3; p++) {
            due("deals(3, " + p + "): the same in some, not in all", with(table(3, 3)).deals(3, p), NONE);
        }
    }

    private static void dealsRefused() {
        sentence("DEALS of n CARDS: p = NONE how many, else SURE; NONE. UNKNOWN, OUTSIDE.");
        CardBecome x = with(table(7, 4));
        int[] outside = {0, -1, 6, LEAST, MOST};
        for (int n : outside) {
            due("deals(" + n + ", NONE)", x.deals(n, NONE), OUTSIDE);
            due("deals(" + n + ", 0)", x.deals(n, 0), OUTSIDE);
            due("deals(" + n + ", 4)", x.deals(n, 4), UNKNOWN);
            due("deals(" + n + ", NONE) without a table", new CardBecome().deals(n, NONE), OUTSIDE);
        }
        int[] unknown = {4, -2, LEAST, MOST};
        for (int p : unknown) {
            due("deals(1, " + p + ")", x.deals(1, p), UNKNOWN);
        }
        due("deals(1, 3)", x.deals(1, 3), NONE);
        due("deals(5, NONE)", x.deals(5, NONE), 120);
    }

    private static void askBest() {
        sentence("ASK: two PERSONS with a CARD (10 times the lesser and the other), by whose BEATS (0, 1, 2) these are told apart best: "
            + "the greatest part that is alike is least; of like ones the least; NONE: none parts them.");
        CardBecome x = with(table(7, 6));
        due("ask(2)", x.ask(2), 1);
        due("ask(5): of like ones the least", x.ask(5), 1);
        x.see(0, 1, 0);
        due("ask(2): one way", x.ask(2), NONE);
        due("ask(3): 0 and 2 part as 2 and 1, so do 1 and 2", x.ask(3), 2);
        due("ask(4): 2 and 3 part as 6 and 6, all others as 8 and 4", x.ask(4), 23);
        x.see(2, 3, 0);
        due("ask(4): 0 and 2 part as 3 and 3", x.ask(4), 2);
        due("ask(3): 3 has none", x.ask(3), NONE);
        x.tear();
        x.see(0, 1, 0);
        x.see(0, 2, 0);
        due("ask(4): 1 and 2 part as 4 and 4, 1 and 3 as 3 and 5, 0 and 3 as 6 and 2", x.ask(4), 12);
        CardBecome pairs = with("r4 0 0;c5 0;c5 1;c6 0;c6 1;p;p;p;p;");
        pairs.see(0, 1, 2);
        due("ask(4): 0 and 1 are alike in all ways, 0 and 2 part as 4 and 4", pairs.ask(4), 2);
        CardBecome alike = with("r4 0 0;c5 0;c5 1;c6 0;p;p;p;");
        due("ask(3): as 2, 2 and 2", alike.ask(3), 1);
        alike.see(0, 1, 2);
        due("ask(3): two ways, no pair parts them", alike.ask(3), NONE);
    }

    private static void askNone() {
        sentence("`int ask(int n)`: ASK, of n CARDS; NONE.");
        due("ask(1): one has a card", with(table(7, 6)).ask(1), NONE);
        due("ask(5) of one person", with(table(7, 1)).ask(5), NONE);
        due("ask(5) of one card", with(table(1, 6)).ask(5), NONE);
        due("ask(5) of two cards", with(table(2, 6)).ask(5), 1);
        due("ask(5) of two persons", with(table(7, 2)).ask(5), 1);
        due("ask(5) of an empty pack", with(table(0, 6)).ask(5), NONE);
        due("ask(5) before nobody", with(table(7, 0)).ask(5), NONE);
        due("ask(5) without a table", new CardBecome().ask(5), NONE);
        due("ask(3) of like ranks", with("r4 0 0;c5 0;c5 1;c5 2;p;p;p;").ask(3), NONE);
        CardBecome never = with(table(7, 6));
        never.see(0, 1, 2);
        due("ask(5) of no way", never.ask(5), NONE);
    }

    private static void askRefused() {
        sentence("ASK, of n CARDS; NONE. OUTSIDE.");
        int[] outside = {0, -1, 6, LEAST, MOST};
        for (int n : outside) {
            due("ask(" + n + ")", with(SEVEN).ask(n), OUTSIDE);
            due("ask(" + n + ") without a table", new CardBecome().ask(n), OUTSIDE);
        }
    }

    private static void fifteenWritten() {
        sentence("An entry behind THE BOOK: how many. UNKNOWN (c NONE is not), FULL (15).");
        CardBecome x = with(SEVEN);
        for (int i = 1; i <= 15; i++) {
            due("write(3, NONE)", x.write(3, NONE), i);
        }
        due("a sixteenth", x.write(3, NONE), FULL);
        due("a sixteenth", x.write(0, 6), FULL);
        due("a sixteenth of nobody", x.write(4, NONE), UNKNOWN);
        due("a sixteenth of no card", x.write(3, 7), UNKNOWN);
        due("told(13)", x.told(13), 15);
        due("judge()", x.judge(), NONE);
        x.tear();
        due("write() behind tear()", x.write(0, 0), 1);
        due("told(14): it is not to be undone", x.told(14), 0);
    }

    private static void writeRefused() {
        sentence("UNKNOWN (c NONE is not)");
        CardBecome x = with(SEVEN);
        due("write(0, NONE)", x.write(0, NONE), 1);
        due("write(3, 6)", x.write(3, 6), 2);
        due("write(3, 3): a person and a card of one number", x.write(3, 3), 3);
        int[][] unknown = {{0, -2}, {0, 7}, {4, 0}, {-1, 0}, {-1, -1}, {4, NONE}, {0, LEAST}, {0, MOST}, {LEAST, 0}, {MOST, 0}, {4, 7}};
        for (int[] entry : unknown) {
            due("write(" + entry[0] + ", " + entry[1] + ")", x.write(entry[0], entry[1]), UNKNOWN);
        }
        due("told(13)", x.told(13), 3);
    }

    private static void wrongOnes() {
        sentence("THE BOOK (15 at most) tells which CARDS PERSONS ARE (NONE: itself): WRONG: the first that is otherwise now; NONE.");
        CardBecome x = with(SEVEN);
        x.write(0, NONE);
        x.write(1, 0);
        x.write(2, 1);
        due("judge(): 1 is itself", x.judge(), 1);
        x.drawOne(1);
        due("judge(): 2 is itself", x.judge(), 2);
        x.drawOne(2);
        due("judge(): all are so", x.judge(), NONE);
        x.drawOne(0);
        due("judge(): 0 is not itself", x.judge(), 0);
        x.undo();
        due("judge(): by what is now", x.judge(), NONE);
        x.drawer(1);
        due("judge(): in a drawer it is nobody", x.judge(), 1);
        x.tear();
        for (int i = 0; i < 14; i++) {
            x.write(2, 1);
        }
        x.write(2, 0);
        due("judge(): the fifteenth", x.judge(), 14);
    }

    private static void torn() {
        sentence("Nothing SEEN, THE BOOK is empty: how much both had.");
        CardBecome x = with(SEVEN);
        due("tear() of nothing", x.tear(), 0);
        x.see(0, 1, 0);
        due("tear() of what is seen", x.tear(), 1);
        x.write(0, 0);
        x.write(0, 0);
        due("tear() of the book", x.tear(), 2);
        for (int i = 0; i < 15; i++) {
            x.see(0, 1, 0);
            x.write(0, 0);
        }
        due("tear() of both, full", x.tear(), 21);
        due("told(12)", x.told(12), 0);
        due("told(13)", x.told(13), 0);
        due("judge()", x.judge(), NONE);
        due("deals(2, NONE)", x.deals(2, NONE), 2);
        due("tear() again", x.tear(), 0);
        due("tear() without a table", new CardBecome().tear(), 0);
    }

    private static void judged() {
        sentence("`int judge()`: WRONG; NONE.");
        due("judge() without a table", new CardBecome().judge(), NONE);
        due("judge() of an empty book", with(SEVEN).judge(), NONE);
        CardBecome x = with(SEVEN);
        x.write(0, 0);
        due("judge()", x.judge(), 0);
    }

    private static void seeds() {
        sentence("THE SEED becomes v (0 .. 2147483647): what it was. OUTSIDE.");
        CardBecome x = new CardBecome();
        due("seed(1)", x.seed(1), 0);
        due("seed(2147483647)", x.seed(2147483647), 1);
        due("seed(-1)", x.seed(-1), OUTSIDE);
        due("seed(-2147483648)", x.seed(LEAST), OUTSIDE);
        due("seed(0)", x.seed(0), 2147483647);
        due("seed(0)", x.seed(0), 0);
        due("told(14): it is not to be undone", x.told(14), 0);
    }

    private static void seedAtFirst() {
        sentence("THE SEED (0 at first:");
        due("seed(7) of a new object", new CardBecome().seed(7), 0);
        due("seed(7) at a first table", with(SEVEN).seed(7), 0);
        CardBecome x = with("r4 0 0;c5 0;c6 0;p;p;p;");
        CardBecome zero = with("r4 0 0;c5 0;c6 0;p;p;p;");
        zero.seed(0);
        due("drift(9)", x.drift(9), zero.drift(9));
        due("seed(0)", x.seed(0), zero.seed(0));
    }

    private static CardBecome busy() {
        CardBecome x = with(SEVEN);
        drawAll(x);
        x.drawer(3);
        x.shuffle(1);
        x.meet(0, 1);
        x.meet(1, 2);
        return x;
    }

    private static void images() {
        sentence("IMAGES 0, 1 keep all of section 2, THE SEED.");
        CardBecome x = busy();
        x.seed(11);
        String first = sectionTwo(x);
        x.keep(0);
        x.out(3);
        x.getBack(1);
        x.meet(2, 1);
        x.seed(22);
        String second = sectionTwo(x);
        x.keep(1);
        x.drift(60);
        x.see(0, 1, 0);
        x.write(0, 0);
        for (int again = 0; again < 2; again++) {
            due("goBack(0)", x.goBack(0), 1);
            due("all of section 2, of image 0", sectionTwo(x), first);
            due("the seed of image 0", x.seed(5), 11);
            x.force(4);
            x.drawOne(3);
            due("goBack(1)", x.goBack(1), 1);
            due("all of section 2, of image 1", sectionTwo(x), second);
            due("the seed of image 1", x.seed(6), 22);
            x.getBack(0);
            x.shuffle(0);
        }
        due("told(12): of section 3, it stays", x.told(12), 1);
        due("told(13): of section 3, it stays", x.told(13), 1);
    }

    private static void kept() {
        sentence("IMAGE i becomes what is so (nothing can be undone then): 1. UNKNOWN.");
        CardBecome x = with(SEVEN);
        x.drawOne(0);
        int[] unknown = {-1, 2, LEAST, MOST};
        for (int i : unknown) {
            due("keep(" + i + ")", x.keep(i), UNKNOWN);
        }
        due("told(14)", x.told(14), 1);
        due("keep(0)", x.keep(0), 1);
        due("told(14): nothing can be undone then", x.told(14), 0);
        due("undo()", x.undo(), NOT);
        due("goBack(1): not kept yet", x.goBack(1), NOT);
        x.drawOne(1);
        due("keep(0) again: it becomes what is so", x.keep(0), 1);
        x.getBack(0);
        x.getBack(1);
        due("keep(1)", x.keep(1), 1);
        due("told(14)", x.told(14), 0);
        x.goBack(0);
        dueIs("of image 0", x, "0 1 -1 -1");
        x.goBack(1);
        dueIs("of image 1", x, "-1 -1 -1 -1");
        due("keep(0) without a table", new CardBecome().keep(0), 1);
        due("keep(2) without a table", new CardBecome().keep(2), UNKNOWN);
    }

    private static void gone() {
        sentence("What is so becomes IMAGE i (nothing can be undone then): 1. UNKNOWN, NOT: it was not kept.");
        CardBecome x = with(SEVEN);
        int[] unknown = {-1, 2, LEAST, MOST};
        for (int i : unknown) {
            due("goBack(" + i + ") with none kept", x.goBack(i), UNKNOWN);
        }
        x.drawOne(0);
        due("goBack(0)", x.goBack(0), NOT);
        due("goBack(1)", x.goBack(1), NOT);
        due("told(14): refused, so all can be undone", x.told(14), 1);
        dueIs("as it was", x, "0 -1 -1 -1");
        x.keep(1);
        due("goBack(0): the other one was kept", x.goBack(0), NOT);
        x.drawOne(1);
        due("goBack(1)", x.goBack(1), 1);
        due("told(14): nothing can be undone then", x.told(14), 0);
        due("undo()", x.undo(), NOT);
        due("goBack(1) again", x.goBack(1), 1);
        lay(x, "x");
        due("goBack(1) behind a faulty text", x.goBack(1), 1);
        lay(x, SEVEN);
        due("goBack(1) behind table()", x.goBack(1), NOT);
        x.keep(0);
        x.table();
        due("goBack(0) behind an empty text", x.goBack(0), NOT);
    }
}
