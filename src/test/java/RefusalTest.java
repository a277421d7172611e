import java.lang.reflect.Method;
import java.lang.reflect.Modifier;
import java.util.ArrayList;
import java.util.Arrays;
import java.util.List;
import java.util.Set;

/** The refusals of the Terms: their numbers, their order, and that what is refused or only tried changes nothing. */
public final class RefusalTest extends Sentences {
    /** Calls that ask and never do, whatever they answer. */
    private static final Set<String> ASKED = Set.of("fault", "told", "card", "pack", "person", "logged", "beats", "rings", "order", "row",
        "tells", "odds", "back", "missing", "wanted", "deals", "ask", "judge");
    private static final int[] EDGES = {LEAST, FULL, UNKNOWN, -2, -1, 0, 1, 2, 3, 4, 5, 6, 7, 11, 12, 14, 15, 16, 60, 61, 63, 64, 255, 256, MOST};
    /** For calls with three numbers. */
    private static final int[] FEW = {LEAST, -1, 0, 1, 2, 3, 6, 7, 11, 12, MOST};
    private static final int STATES = 6;
    private static final int READINGS = 5;

    public static void main(String[] args) throws ReflectiveOperationException {
        numbers();
        unknownFirst();
        outsideThen();
        notThen();
        fullLast();
        sentence("What is refused changes nothing.");
        nothingChanges(true);
        sentence("TRIED from now; nothing changes by it.");
        nothingChanges(false);
        end();
    }

    private static void numbers() {
        sentence("NONE = -1, UNKNOWN = -1000000001, OUTSIDE = -1000000002, NOT = -1000000003, FULL = -1000000004;");
        due("NONE", CardBecome.NONE, -1);
        due("UNKNOWN", CardBecome.UNKNOWN, -1000000001);
        due("OUTSIDE", CardBecome.OUTSIDE, -1000000002);
        due("NOT", CardBecome.NOT, -1000000003);
        due("FULL", CardBecome.FULL, -1000000004);
    }

    private static CardBecome fullOfPapers() {
        CardBecome x = with(SEVEN);
        for (int i = 0; i < 15; i++) {
            x.see(0, 1, 0);
            x.write(0, 0);
        }
        return x;
    }

    private static void unknownFirst() {
        sentence("UNKNOWN (a PERSON, CARD, IMAGE that there is not; bits of such; one twice, where two are asked)");
        CardBecome x = fullOfPapers();
        due("card: UNKNOWN and OUTSIDE", x.card(7, 5), UNKNOWN);
        due("person: UNKNOWN and OUTSIDE", x.person(4, 3), UNKNOWN);
        due("row: UNKNOWN and OUTSIDE (k)", x.row(7, 12, 0), UNKNOWN);
        due("row: UNKNOWN and OUTSIDE (what)", x.row(7, 0, 2), UNKNOWN);
        due("see: UNKNOWN, OUTSIDE and FULL", x.see(4, 0, 3), UNKNOWN);
        due("see: one twice, OUTSIDE and FULL", x.see(0, 0, 3), UNKNOWN);
        due("see: UNKNOWN and FULL", x.see(0, 4, 0), UNKNOWN);
        due("deals: UNKNOWN and OUTSIDE", x.deals(6, 4), UNKNOWN);
        due("write: UNKNOWN and FULL", x.write(4, 0), UNKNOWN);
        due("write: UNKNOWN and FULL", x.write(0, 7), UNKNOWN);
        due("goBack: UNKNOWN, and none was kept", x.goBack(2), UNKNOWN);
        due("order: one bit too many", x.order(16 + 1), UNKNOWN);
        CardBecome empty = drawn("r4 0 0;c5 0;p;");
        due("drawOne: UNKNOWN, and the pack is empty", empty.drawOne(1), UNKNOWN);
        due("meet: one twice", empty.meet(0, 0), UNKNOWN);
        due("odds: one twice", empty.odds(0, 0), UNKNOWN);
        due("beats: one twice", empty.beats(0, 0), UNKNOWN);
        CardBecome none = new CardBecome();
        due("card without a table", none.card(0, 9), UNKNOWN);
        due("see without a table", none.see(0, 1, 9), UNKNOWN);
    }

    private static void outsideThen() {
        sentence("OUTSIDE (another number out of its bounds)");
        CardBecome x = fullOfPapers();
        x.drawOne(0);
        due("row: OUTSIDE (k) and NOT", x.row(0, 12, 0), OUTSIDE);
        due("row: OUTSIDE (what) and NOT", x.row(0, 0, -1), OUTSIDE);
        due("see: OUTSIDE and FULL", x.see(0, 1, 3), OUTSIDE);
        due("logged: OUTSIDE, and there is none", x.logged(0, 3), OUTSIDE);
        CardBecome none = new CardBecome();
        due("shuffle: OUTSIDE and no table", none.shuffle(3), OUTSIDE);
        due("drift: OUTSIDE and no table", none.drift(61), OUTSIDE);
        due("wanted: OUTSIDE and no persons", none.wanted(2), OUTSIDE);
        feedAll(none, " ".repeat(240));
        due("feed: OUTSIDE and FULL", none.feed(256), OUTSIDE);
    }

    private static void notThen() {
        sentence("NOT (not now, as told)");
        CardBecome x = with("r4 0 0;c5 0;p;p;");
        due("getBack(0)", x.getBack(0), NOT);
        due("drawer(0)", x.drawer(0), NOT);
        due("back(0)", x.back(0), NOT);
        due("out(0)", x.out(0), NOT);
        due("undo()", x.undo(), NOT);
        due("goBack(0)", x.goBack(0), NOT);
        x.drawOne(0);
        due("drawOne(0)", x.drawOne(0), NOT);
        due("drawOne(1)", x.drawOne(1), NOT);
        due("force(0)", x.force(0), NOT);
        due("row(0, 0, 0)", x.row(0, 0, 0), NOT);
        CardBecome none = new CardBecome();
        due("shuffle(0)", none.shuffle(0), NOT);
        due("drift(1)", none.drift(1), NOT);
        due("missing(0)", none.missing(0), NOT);
    }

    private static void fullLast() {
        sentence("FULL. They are far below all that is counted: -1000000001 and on.");
        CardBecome x = fullOfPapers();
        due("see(0, 1, 0)", x.see(0, 1, 0), FULL);
        due("write(0, 0)", x.write(0, 0), FULL);
        feedAll(x, " ".repeat(240));
        due("feed(32)", x.feed(32), FULL);
    }

    /** States in which calls are refused for other reasons each: no table, nobody, much of all, an empty pack, a full text. */
    private static CardBecome state(int kind) {
        CardBecome x = new CardBecome();
        switch (kind) {
            case 0: return feedAll(x, "r0 0 0;p");
            case 1: return feedAll(with("r4 0 0;"), "r0");
            case 2: return busy(SEVEN);
            case 3: return busy(TWELVE);
            case 4: return emptied();
            default: return feedAll(x, " ".repeat(230) + "r0 0 0;p; ");
        }
    }

    private static CardBecome busy(String text) {
        CardBecome x = with(text);
        x.drawOne(0);
        x.meet(0, 1);
        x.keep(0);
        x.seed(12);
        x.drift(9);
        x.keep(1);
        x.shuffle(0);
        x.drift(5);
        x.drawOne(1);
        x.drawer(1);
        for (int i = 0; i < 15; i++) {
            x.shuffle(i % 3);
            x.see(0, 1, i % 3);
            x.write(i % 4, i % 3 - 1);
        }
        return feedAll(x, "r0 0 0;p;");
    }

    private static CardBecome emptied() {
        CardBecome x = with("r0 1 1;c11 0;c12 1;c13 0;c2 3;p;p;p;");
        drawAll(x);
        x.drawer(1);
        x.drawOne(1);
        x.meet(0, 1);
        x.see(0, 1, 0);
        x.write(0, 0);
        return x;
    }

    /** Of all calls with numbers at the edges: of those that are refused, or of those that ask and are answered. */
    private static void nothingChanges(boolean ofRefused) throws ReflectiveOperationException {
        int looked = 0;
        for (int kind = 0; kind < STATES; kind++) {
            int[][] before = new int[READINGS][];
            for (int reading = 0; reading < READINGS; reading++) {
                before[reading] = read(state(kind), reading);
            }
            for (Method method : CardBecome.class.getDeclaredMethods()) {
                if (Modifier.isPublic(method.getModifiers()) && (ofRefused || ASKED.contains(method.getName()))) {
                    for (Object[] numbers : numbersFor(method.getParameterCount())) {
                        looked += changesNothing(kind, method, numbers, before, ofRefused) ? 1 : 0;
                    }
                }
            }
        }
        due("there were many such calls: " + looked, looked > 1000 ? 1 : 0, 1);
    }

    private static List<Object[]> numbersFor(int many) {
        List<Object[]> all = new ArrayList<>();
        all.add(new Object[0]);
        for (int i = 0; i < many; i++) {
            List<Object[]> longer = new ArrayList<>();
            for (Object[] one : all) {
                for (int number : many == 3 ? FEW : EDGES) {
                    Object[] more = Arrays.copyOf(one, one.length + 1);
                    more[one.length] = number;
                    longer.add(more);
                }
            }
            all = longer;
        }
        return all;
    }

    /** Whether it was such a call. Each reading has an object of its own, as none may be used for more than 512 calls. */
    private static boolean changesNothing(int kind, Method method, Object[] numbers, int[][] before, boolean ofRefused)
            throws ReflectiveOperationException {
        for (int reading = 0; reading < READINGS; reading++) {
            CardBecome x = state(kind);
            int answer = (Integer) method.invoke(x, numbers);
            if (answer <= UNKNOWN != ofRefused) {
                return false;
            }
            int[] after = read(x, reading);
            if (!Arrays.equals(after, before[reading])) {
                due("what is so behind " + method.getName() + Arrays.toString(numbers) + " in state " + kind + ", reading " + reading,
                    Arrays.toString(after), Arrays.toString(before[reading]));
            }
        }
        return true;
    }

    /** 0 what is so, 1 what can be undone, 2 and 3 the images, 4 the text and the seed. */
    private static int[] read(CardBecome x, int reading) {
        Row row = new Row();
        if (reading == 1) {
            for (int i = 0, left = 1; i <= 16 && left >= 0; i++) {
                left = x.undo();
                row.add(left);
                readShort(x, row);
            }
            return row.numbers();
        }
        if (reading == 2 || reading == 3) {
            row.add(x.goBack(reading - 2));
        } else if (reading == 4) {
            row.add(x.table());
            row.add(x.fault());
        }
        readShort(x, row);
        readLong(x, row);
        row.add(x.seed(1));
        return row.numbers();
    }

    private static void readShort(CardBecome x, Row row) {
        for (int place = 0; place < 12; place++) {
            row.add(x.pack(place));
        }
        for (int p = 0; p < 6; p++) {
            row.add(x.person(p, 0));
        }
        row.add(x.told(7));
        row.add(x.told(10));
    }

    private static void readLong(CardBecome x, Row row) {
        row.add(x.fault());
        for (int what = 0; what <= 14; what++) {
            row.add(x.told(what));
        }
        for (int c = 0; c < 12; c++) {
            row.add(x.card(c, 0));
            row.add(x.card(c, 1));
        }
        for (int p = 0; p < 6; p++) {
            row.add(x.person(p, 1));
            row.add(x.person(p, 2));
        }
        for (int i = 0; i < 24; i++) {
            row.add(x.logged(i, 0));
            row.add(x.logged(i, 1));
            row.add(x.logged(i, 2));
        }
        for (int n = 1; n <= 5; n++) {
            row.add(x.deals(n, NONE));
            row.add(x.deals(n, 0));
            row.add(x.ask(n));
        }
        row.add(x.missing(NONE));
        row.add(x.missing(0));
        row.add(x.judge());
        row.add(x.tear());
    }

    private static final class Row {
        private final int[] all = new int[512];
        private int many;

        void add(int number) {
            all[many++] = number;
        }

        int[] numbers() {
            return Arrays.copyOf(all, many);
        }
    }
}
