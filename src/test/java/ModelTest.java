import java.lang.reflect.Method;
import java.util.ArrayDeque;
import java.util.ArrayList;
import java.util.Arrays;
import java.util.Collections;
import java.util.Deque;
import java.util.HashSet;
import java.util.List;
import java.util.Random;
import java.util.Set;
import java.util.TreeSet;

/** Long rows of calls, asked of the class and of a second program that tries everything the slow way. */
public final class ModelTest {
    private static final int OBJECTS = 1500;
    private static final int CALLS = 512;
    private static final int NONE = -1, UNKNOWN = -1000000001, OUTSIDE = -1000000002, NOT = -1000000003, FULL = -1000000004;

    private static final String[] DONE = {"drawOne", "getBack", "meet", "force", "shuffle", "drawer", "out", "drift", "undo"};
    private static final String[] ASKED = {"fault", "told", "card", "pack", "person", "logged", "beats", "rings", "order", "row",
        "tells", "odds", "back", "missing", "wanted", "deals", "ask", "judge"};
    private static final String[] OTHER = {"see", "write", "tear", "seed", "keep", "goBack"};

    private final Random random;
    private final CardBecome real = new CardBecome();
    private final Model model = new Model();
    private final List<String> calls = new ArrayList<>();

    private ModelTest(long seed) {
        random = new Random(seed);
    }

    public static void main(String[] args) throws ReflectiveOperationException {
        int wrong = 0;
        for (int i = 0; i < OBJECTS && wrong < 5; i++) {
            wrong += new ModelTest(i).run() ? 0 : 1;
        }
        wrong += shortTexts() ? 0 : 1;
        System.out.println(wrong == 0 ? "the class and the model agree" : "the class and the model differ");
        if (wrong != 0) {
            System.exit(1);
        }
    }

    /** Every row of a few letters behind beginnings of all kinds. */
    private static boolean shortTexts() {
        String[] begun = {"", "r", "r4 1 ", "r0 0 0;", "r0 0 0;c1 1;", "r0 0 0;c1 1;c1", "r0 0 0;p;p;p;p;p;p;",
            "r0 0 0;c1 0;c2 0;c3 0;c4 0;c5 0;c6 0;c7 0;c8 0;c9 0;c10 0;c11 0;c12 0;"};
        String letters = "rcp; 014x";
        for (String text : begun) {
            for (int row = 0; row < 9 * 9 * 9 * 9; row++) {
                StringBuilder all = new StringBuilder(text);
                for (int left = row; left > 0; left /= 9) {
                    all.append(letters.charAt(left % 9));
                }
                if (!agreeOn(all.toString())) {
                    return false;
                }
            }
        }
        return true;
    }

    private static boolean agreeOn(String text) {
        CardBecome mine = new CardBecome();
        Model other = new Model();
        for (char letter : text.toCharArray()) {
            mine.feed(letter);
            other.feed(letter);
        }
        int got = mine.table();
        int want = other.table();
        boolean agree = got == want && mine.fault() == other.fault() && mine.told(3) == other.told(3);
        if (!agree) {
            System.out.println("table() of \"" + text + "\" answered " + got + " at " + mine.fault() + ", the model says "
                + want + " at " + other.fault());
        }
        return agree;
    }

    private boolean run() throws ReflectiveOperationException {
        boolean agree = random.nextInt(8) == 0 || layTable();
        while (agree && calls.size() < CALLS) {
            int kind = random.nextInt(100);
            if (kind < 2) {
                agree = layTable();
            } else if (kind < 3) {
                agree = ask("feed", anyNumber(-1, 256));
            } else if (kind < 45) {
                agree = askAny(DONE);
            } else if (kind < 90) {
                agree = askAny(ASKED);
            } else {
                agree = askAny(OTHER);
            }
        }
        return agree;
    }

    private boolean layTable() throws ReflectiveOperationException {
        for (char letter : anyText().toCharArray()) {
            if (!ask("feed", letter)) {
                return false;
            }
        }
        return ask("table") && ask("fault");
    }

    private boolean askAny(String[] names) throws ReflectiveOperationException {
        String name = names[random.nextInt(names.length)];
        switch (name) {
            case "told": return ask(name, anyNumber(0, 14));
            case "card": return ask(name, anyCard(), anyNumber(0, 4));
            case "pack": return ask(name, anyNumber(0, 12));
            case "person": return ask(name, anyPerson(), anyNumber(0, 2));
            case "logged": return ask(name, anyNumber(0, 24), anyNumber(0, 2));
            case "drawOne": case "getBack": case "drawer": case "back": return ask(name, anyPerson());
            case "meet": case "odds": return ask(name, anyPerson(), anyPerson());
            case "force": case "out": return ask(name, anyCard());
            case "shuffle": return ask(name, anyNumber(0, 2));
            case "drift": return ask(name, random.nextInt(4) == 0 ? anyNumber(1, 60) : anyNumber(1, 5));
            case "beats": return ask(name, anyCard(), anyCard());
            case "rings": return ask(name, anyNumber(-1, 4));
            case "order": return ask(name, anyNumber(0, (1 << model.persons) - 1));
            case "row": return ask(name, anyCard(), anyNumber(0, 11), anyNumber(0, 1));
            case "missing": return ask(name, anyNumber(-1, 52));
            case "wanted": return ask(name, anyNumber(0, 1));
            case "see": return ask(name, anyPerson(), anyPerson(), anyNumber(0, 2));
            case "deals": return ask(name, anyNumber(1, 5), anyNumber(-1, model.persons - 1));
            case "ask": return ask(name, anyNumber(1, 5));
            case "write": return ask(name, anyPerson(), random.nextBoolean() ? model.cardOf(0) : anyNumber(-1, model.cards.size() - 1));
            case "tear": return random.nextInt(3) != 0 || ask(name);
            case "seed": return ask(name, random.nextInt(3) == 0 ? random.nextInt() : random.nextInt(1000));
            case "keep": case "goBack": return ask(name, anyNumber(0, 1));
            default: return ask(name);
        }
    }

    private int anyNumber(int least, int most) {
        int kind = random.nextInt(60);
        if (kind == 0) {
            return least - 1;
        }
        if (kind == 1) {
            return most + 1;
        }
        if (kind == 2) {
            int[] odd = {Integer.MIN_VALUE, Integer.MAX_VALUE, -1, 31, 32, 64, 1 << 16, UNKNOWN};
            return odd[random.nextInt(odd.length)];
        }
        return most < least ? least : least + random.nextInt(most - least + 1);
    }

    private int anyPerson() {
        return anyNumber(0, model.persons - 1);
    }

    private int anyCard() {
        return anyNumber(0, model.cards.size() - 1);
    }

    private boolean ask(String name, int... numbers) throws ReflectiveOperationException {
        if (calls.size() >= CALLS) {
            return true;
        }
        Class<?>[] types = new Class<?>[numbers.length];
        Arrays.fill(types, int.class);
        Object[] given = Arrays.stream(numbers).boxed().toArray();
        Method mine = CardBecome.class.getMethod(name, types);
        Method other = Model.class.getDeclaredMethod(name, types);
        Object got = mine.invoke(real, given);
        Object want = other.invoke(model, given);
        String call = name + Arrays.toString(numbers);
        calls.add(call + " = " + want);
        if (got.equals(want)) {
            return true;
        }
        System.out.println(String.join("; ", calls) + "\n" + call + " answered " + got + ", the model says " + want);
        return false;
    }

    // ---- texts

    private String anyText() {
        if (random.nextInt(20) == 0) {
            return random.nextInt(2) == 0 ? "" : " ".repeat(random.nextInt(3));
        }
        StringBuilder text = new StringBuilder();
        text.append('r').append(number(random.nextInt(5))).append(' ').append(number(random.nextInt(2))).append(' ')
            .append(number(random.nextInt(2))).append(';');
        int cards = random.nextInt(4) == 0 ? random.nextInt(4) : random.nextInt(13);
        int persons = random.nextInt(4) == 0 ? random.nextInt(3) : random.nextInt(7);
        List<String> clauses = new ArrayList<>();
        Set<String> told = new HashSet<>();
        int ranks = random.nextInt(3) == 0 ? 4 : 13;
        while (told.size() < cards) {
            int rank = 14 - ranks + random.nextInt(ranks);
            int suit = random.nextInt(4);
            if (told.add(rank + "/" + suit)) {
                clauses.add("c" + number(rank) + " " + number(suit) + ";");
            }
        }
        clauses.addAll(Collections.nCopies(persons, "p;"));
        if (random.nextBoolean()) {
            Collections.shuffle(clauses, random);
        }
        clauses.forEach(text::append);
        if (random.nextInt(3) == 0) {
            spoil(text);
        }
        return text.toString();
    }

    private String number(int value) {
        return random.nextInt(10) == 0 ? String.format("%03d", value) : Integer.toString(value);
    }

    private void spoil(StringBuilder text) {
        String some = "rcp; 0123456789;;rcp  x" + (char) 255;
        int many = 1 + random.nextInt(3);
        for (int i = 0; i < many; i++) {
            int at = random.nextInt(text.length());
            char letter = some.charAt(random.nextInt(some.length()));
            switch (random.nextInt(5)) {
                case 0: text.insert(at, letter); break;
                case 1: text.setCharAt(at, letter); break;
                case 2: text.deleteCharAt(at); text.append(' '); break;
                case 3: text.insert(at, ' '); break;
                default: text.append(new String[] {"p;", "c1 1;", "c1 2;p", "r0 0 0;", "c7 7;"}[random.nextInt(5)]); break;
            }
        }
    }

    // ---- the model

    private static final class State {
        List<Integer> pack = new ArrayList<>();
        List<Integer> is = new ArrayList<>();
        List<Integer> wins = new ArrayList<>();
        Set<Integer> drawers = new TreeSet<>();
        /** Who, with whom, their cards, who won; the latest first. */
        List<int[]> log = new ArrayList<>();

        State copy() {
            State other = new State();
            other.pack.addAll(pack);
            other.is.addAll(is);
            other.wins.addAll(wins);
            other.drawers.addAll(drawers);
            other.log.addAll(log);
            return other;
        }
    }

    private static final class Model {
        String text = "";
        int faultAt = NONE;
        boolean stands;
        int trump = NONE, low, knave, persons;
        List<int[]> cards = new ArrayList<>();
        State state = new State();
        Deque<State> past = new ArrayDeque<>();
        State[] images = new State[2];
        long[] imageSeeds = new long[2];
        long seed;
        List<int[]> seen = new ArrayList<>();
        List<int[]> book = new ArrayList<>();

        // ---- the text

        int feed(int letter) {
            if (letter < 0 || letter > 255) {
                return OUTSIDE;
            }
            if (text.length() >= 240) {
                return FULL;
            }
            text += (char) letter;
            return text.length();
        }

        /** A token: where it begins, its word (0 for a number, 1 for the end), its figures. */
        private record Token(int at, char word, String figures) {
        }

        private List<Token> tokens() {
            List<Token> all = new ArrayList<>();
            for (int i = 0; i < text.length(); i++) {
                char letter = text.charAt(i);
                if (letter >= '0' && letter <= '9') {
                    int end = i;
                    while (end < text.length() && text.charAt(end) >= '0' && text.charAt(end) <= '9') {
                        end++;
                    }
                    all.add(new Token(i, '\0', text.substring(i, end)));
                    i = end - 1;
                } else if (letter != ' ') {
                    all.add(new Token(i, letter == 0 || letter == 1 ? 'x' : letter, ""));
                }
            }
            all.add(new Token(text.length(), '\1', ""));
            return all;
        }

        /** The fault times 1000 and its letter; or 0, and the clauses are in the list. */
        private int parse(List<int[]> clauses) {
            List<Token> all = tokens();
            int next = 0;
            int cardsTold = 0;
            int personsTold = 0;
            while (true) {
                Token word = all.get(next++);
                if (clauses.isEmpty() && word.word() != 'r') {
                    return 1000 + word.at();
                }
                if (word.word() == '\1') {
                    return 0;
                }
                int[][] bounds;
                switch (word.word()) {
                    case 'r': bounds = new int[][] {{0, 4}, {0, 1}, {0, 1}}; break;
                    case 'c': bounds = new int[][] {{1, 13}, {0, 3}}; break;
                    case 'p': bounds = new int[0][]; break;
                    default: return 1000 + word.at();
                }
                cardsTold += word.word() == 'c' ? 1 : 0;
                personsTold += word.word() == 'p' ? 1 : 0;
                if (word.word() == 'r' && !clauses.isEmpty() || cardsTold > 12 || personsTold > 6) {
                    return 3000 + word.at();
                }
                int[] clause = new int[bounds.length + 1];
                clause[0] = word.word();
                for (int i = 0; i < bounds.length; i++) {
                    Token number = all.get(next++);
                    if (number.word() != '\0') {
                        return 1000 + number.at();
                    }
                    if (number.figures().length() > 3) {
                        return 2000 + number.at();
                    }
                    clause[i + 1] = Integer.parseInt(number.figures());
                    if (clause[i + 1] < bounds[i][0] || clause[i + 1] > bounds[i][1]) {
                        return 2000 + number.at();
                    }
                    if (word.word() == 'c' && i == 1 && clauses.stream().anyMatch(told -> Arrays.equals(told, clause))) {
                        return 4000 + number.at();
                    }
                }
                Token end = all.get(next++);
                if (end.word() != ';') {
                    return 1000 + end.at();
                }
                clauses.add(clause);
            }
        }

        int table() {
            List<int[]> clauses = new ArrayList<>();
            int fault = text.replace(" ", "").isEmpty() ? 0 : parse(clauses);
            text = "";
            faultAt = fault == 0 ? NONE : fault % 1000;
            if (fault != 0) {
                return -10 - fault / 1000;
            }
            stands = !clauses.isEmpty();
            trump = NONE;
            low = 0;
            knave = 0;
            persons = 0;
            cards.clear();
            state = new State();
            for (int[] clause : clauses) {
                if (clause[0] == 'r') {
                    trump = clause[1];
                    low = clause[2];
                    knave = clause[3];
                } else if (clause[0] == 'c') {
                    state.pack.add(cards.size());
                    cards.add(new int[] {clause[1], clause[2]});
                } else {
                    persons++;
                    state.is.add(NONE);
                    state.wins.add(0);
                }
            }
            past.clear();
            images = new State[2];
            seen.clear();
            book.clear();
            return persons;
        }

        int fault() {
            return faultAt;
        }

        // ---- what is

        boolean noPerson(int p) {
            return p < 0 || p >= persons;
        }

        boolean noPair(int p, int q) {
            return noPerson(p) || noPerson(q) || p == q;
        }

        boolean noCard(int c) {
            return c < 0 || c >= cards.size();
        }

        int cardOf(int p) {
            return noPerson(p) ? NONE : state.is.get(p);
        }

        /** 1 the first card wins, -1 the second, 0 neither; by the told rules or by others. */
        int compare(int c, int d, int byTrump, int byLow) {
            int[] one = cards.get(c);
            int[] two = cards.get(d);
            if (one[1] == byTrump && two[1] != byTrump) {
                return 1;
            }
            if (one[1] != byTrump && two[1] == byTrump) {
                return -1;
            }
            if (knave == 1 && one[1] == two[1] && one[0] == 11 && two[0] != 11) {
                return 1;
            }
            if (knave == 1 && one[1] == two[1] && one[0] != 11 && two[0] == 11) {
                return -1;
            }
            int higher = Integer.compare(one[0], two[0]);
            return byLow == 0 ? higher : -higher;
        }

        int compareHeld(int c, int d) {
            if (c == NONE && d == NONE) {
                return 0;
            }
            if (c == NONE) {
                return -1;
            }
            return d == NONE ? 1 : compare(c, d, trump, low);
        }

        boolean personBeats(int p, int q) {
            return p != q && compareHeld(cardOf(p), cardOf(q)) > 0;
        }

        int beatCount(int p) {
            int many = 0;
            for (int q = 0; q < persons; q++) {
                many += personBeats(p, q) ? 1 : 0;
            }
            return many;
        }

        int ruler() {
            int best = NONE;
            for (int p = persons - 1; p >= 0; p--) {
                if (beatCount(p) > 0 && (best == NONE || beatCount(p) >= beatCount(best))) {
                    best = p;
                }
            }
            return best;
        }

        List<int[]> held() {
            List<int[]> rules = new ArrayList<>();
            for (int t = 0; t <= 4; t++) {
                for (int l = 0; l <= 1; l++) {
                    boolean fits = true;
                    for (int[] met : state.log) {
                        if (met[2] != NONE && met[3] != NONE) {
                            int by = compare(met[2], met[3], t, l);
                            int won = by > 0 ? met[0] : by < 0 ? met[1] : NONE;
                            fits &= won == met[4];
                        }
                    }
                    if (fits) {
                        rules.add(new int[] {t, l});
                    }
                }
            }
            return rules;
        }

        int holders() {
            int set = 0;
            for (int p = 0; p < persons; p++) {
                set += cardOf(p) != NONE ? 1 << p : 0;
            }
            return set;
        }

        int told(int what) {
            if (what < 0 || what > 14) {
                return OUTSIDE;
            }
            int inDrawers = state.drawers.stream().mapToInt(c -> 1 << c).sum();
            int rules = held().stream().mapToInt(rule -> 1 << (2 * rule[0] + rule[1])).sum();
            return new int[] {trump, low, knave, cards.size(), persons, text.length(), state.pack.size(), inDrawers, holders(),
                ruler(), state.log.size(), rules, seen.size(), book.size(), past.size()}[what];
        }

        int card(int c, int what) {
            if (noCard(c)) {
                return UNKNOWN;
            }
            if (what < 0 || what > 4) {
                return OUTSIDE;
            }
            return new int[] {cards.get(c)[0], cards.get(c)[1], state.pack.indexOf(c), state.is.indexOf(c),
                state.drawers.contains(c) ? 1 : 0}[what];
        }

        int pack(int place) {
            return place >= 0 && place < state.pack.size() ? state.pack.get(place) : NONE;
        }

        int person(int p, int what) {
            if (noPerson(p)) {
                return UNKNOWN;
            }
            if (what < 0 || what > 2) {
                return OUTSIDE;
            }
            int set = 0;
            for (int q = 0; q < persons; q++) {
                set += personBeats(p, q) ? 1 << q : 0;
            }
            return new int[] {cardOf(p), state.wins.get(p), set}[what];
        }

        int logged(int i, int what) {
            if (what < 0 || what > 2) {
                return OUTSIDE;
            }
            if (i < 0 || i >= state.log.size()) {
                return NONE;
            }
            int[] met = state.log.get(i);
            return new int[] {met[0], met[1], met[4]}[what];
        }

        // ---- what is done

        void remember() {
            past.push(state.copy());
            if (past.size() > 16) {
                past.removeLast();
            }
        }

        int drawOne(int p) {
            if (noPerson(p)) {
                return UNKNOWN;
            }
            if (cardOf(p) != NONE || state.pack.isEmpty()) {
                return NOT;
            }
            remember();
            state.is.set(p, state.pack.remove(0));
            return cardOf(p);
        }

        int getBack(int p) {
            if (noPerson(p)) {
                return UNKNOWN;
            }
            if (cardOf(p) == NONE) {
                return NOT;
            }
            remember();
            state.pack.add(cardOf(p));
            state.is.set(p, NONE);
            return state.pack.get(state.pack.size() - 1);
        }

        int meet(int p, int q) {
            if (noPair(p, q)) {
                return UNKNOWN;
            }
            remember();
            int won = personBeats(p, q) ? p : personBeats(q, p) ? q : NONE;
            if (won != NONE) {
                state.wins.set(won, Math.min(999999, state.wins.get(won) + 1));
            }
            state.log.add(0, new int[] {p, q, cardOf(p), cardOf(q), won});
            if (state.log.size() > 24) {
                state.log.remove(24);
            }
            return won;
        }

        int force(int c) {
            if (noCard(c)) {
                return UNKNOWN;
            }
            int place = state.pack.indexOf(c);
            if (place < 0) {
                return NOT;
            }
            remember();
            state.pack.add(0, state.pack.remove(place));
            return place;
        }

        static List<Integer> shuffled(List<Integer> pack, int k) {
            List<Integer> then = new ArrayList<>();
            if (k == 0) {
                Deque<Integer> upper = new ArrayDeque<>(pack.subList(0, pack.size() / 2));
                Deque<Integer> lower = new ArrayDeque<>(pack.subList(pack.size() / 2, pack.size()));
                while (!upper.isEmpty() && !lower.isEmpty()) {
                    then.add(lower.poll());
                    then.add(upper.poll());
                }
                then.addAll(lower);
                then.addAll(upper);
            } else {
                then.addAll(pack);
                if (k == 1) {
                    Collections.reverse(then);
                } else {
                    Collections.rotate(then, -1);
                }
            }
            return then;
        }

        int shuffle(int k) {
            if (k < 0 || k > 2) {
                return OUTSIDE;
            }
            if (!stands) {
                return NOT;
            }
            remember();
            state.pack = shuffled(state.pack, k);
            return pack(0);
        }

        int drawer(int p) {
            if (noPerson(p)) {
                return UNKNOWN;
            }
            int c = cardOf(p);
            if (c == NONE) {
                return NOT;
            }
            remember();
            state.drawers.add(c);
            state.is.set(p, NONE);
            return c;
        }

        int out(int c) {
            if (noCard(c)) {
                return UNKNOWN;
            }
            if (!state.drawers.contains(c)) {
                return NOT;
            }
            remember();
            state.drawers.remove(c);
            state.pack.add(c);
            return state.pack.size();
        }

        int chance(int n) {
            seed = (seed * 1103515245L + 12345L) % (1L << 31);
            return (int) (seed / 65536 % n);
        }

        int drift(int n) {
            if (n < 1 || n > 60) {
                return OUTSIDE;
            }
            if (!stands) {
                return NOT;
            }
            State before = state.copy();
            Deque<State> pastBefore = new ArrayDeque<>(past);
            for (int i = 0; i < n && persons > 0; i++) {
                int p = chance(persons);
                switch (chance(5)) {
                    case 0: case 1: drawOne(p); break;
                    case 2: getBack(p); break;
                    case 3: meet(p, chance(persons)); break;
                    default: shuffle(chance(3)); break;
                }
            }
            past = pastBefore;
            State after = state;
            state = before;
            remember();
            state = after;
            return holders();
        }

        int undo() {
            if (past.isEmpty()) {
                return NOT;
            }
            state = past.pop();
            return past.size();
        }

        // ---- tried

        int beats(int c, int d) {
            if (noCard(c) || noCard(d) || c == d) {
                return UNKNOWN;
            }
            return new int[] {2, 0, 1}[compare(c, d, trump, low) + 1];
        }

        int pick(List<Integer> rising, int i) {
            if (i == NONE) {
                return rising.size();
            }
            return i >= 0 && i < rising.size() ? rising.get(i) : NONE;
        }

        int rings(int i) {
            TreeSet<Integer> all = new TreeSet<>();
            for (int code = 0; code < 666; code++) {
                int a = code / 100;
                int b = code / 10 % 10;
                int c = code % 10;
                if (a < b && a < c && b != c && personBeats(a, b) && personBeats(b, c) && personBeats(c, a)) {
                    all.add(code);
                }
            }
            return pick(new ArrayList<>(all), i);
        }

        private void orders(List<Integer> waiting, int many, int figures, Set<Integer> all) {
            if (many == 0) {
                all.add(figures);
                return;
            }
            for (Integer p : waiting) {
                List<Integer> rest = new ArrayList<>(waiting);
                rest.remove(p);
                orders(rest, many - 1, figures * 10 + p + 1, all);
            }
        }

        int order(int set) {
            if ((set & ~((1 << persons) - 1)) != 0) {
                return UNKNOWN;
            }
            List<Integer> waiting = new ArrayList<>();
            for (int p = 0; p < persons; p++) {
                if (cardOf(p) == NONE) {
                    waiting.add(p);
                }
            }
            Set<Integer> all = new TreeSet<>();
            orders(waiting, Math.min(waiting.size(), state.pack.size()), 0, all);
            for (int figures : all) {
                State then = state;
                state = then.copy();
                for (char figure : (figures == 0 ? "" : "" + figures).toCharArray()) {
                    state.is.set(figure - '1', state.pack.remove(0));
                }
                boolean so = true;
                for (int p = 0; p < persons; p++) {
                    for (int q = 0; q < persons; q++) {
                        so &= (set >> p & 1) == 0 || (set >> q & 1) == 1 || personBeats(p, q);
                    }
                }
                state = then;
                if (so) {
                    return figures;
                }
            }
            return NONE;
        }

        int row(int c, int k, int what) {
            if (noCard(c)) {
                return UNKNOWN;
            }
            if (k < 0 || k > 11 || what < 0 || what > 1) {
                return OUTSIDE;
            }
            if (!state.pack.contains(c)) {
                return NOT;
            }
            // In rising rows of like length, so the first to reach a place is the one that is wanted.
            List<String> rows = List.of("");
            Set<Integer> reached = new HashSet<>();
            for (int length = 0; length <= 10; length++) {
                List<String> longer = new ArrayList<>();
                for (String one : rows) {
                    List<Integer> then = state.pack;
                    for (char shuffle : one.toCharArray()) {
                        then = shuffled(then, shuffle - '0');
                    }
                    int place = then.indexOf(c);
                    if (place == k) {
                        return what == 0 ? length : length == 0 ? NONE : one.charAt(0) - '0';
                    }
                    if (reached.add(place)) {
                        longer.add(one + "0");
                        longer.add(one + "1");
                        longer.add(one + "2");
                    }
                }
                rows = longer;
            }
            return NONE;
        }

        static int greatest(int[] parts) {
            return Arrays.stream(parts).max().orElse(0);
        }

        int tells() {
            List<int[]> rules = held();
            int best = NONE;
            int least = rules.size();
            for (int c = 0; c < cards.size(); c++) {
                for (int d = c + 1; d < cards.size(); d++) {
                    int[] parts = new int[3];
                    for (int[] rule : rules) {
                        parts[compare(c, d, rule[0], rule[1]) + 1]++;
                    }
                    if (greatest(parts) < least) {
                        least = greatest(parts);
                        best = 100 * c + d;
                    }
                }
            }
            return best;
        }

        int odds(int p, int q) {
            if (noPair(p, q)) {
                return UNKNOWN;
            }
            long many = state.pack.stream().filter(c -> compareHeld(c, cardOf(q)) > 0).count();
            return state.pack.isEmpty() ? 0 : (int) (1000000L * many / state.pack.size());
        }

        int back(int p) {
            if (noPerson(p)) {
                return UNKNOWN;
            }
            if (cardOf(p) == NONE) {
                return NOT;
            }
            int balance = 0;
            for (int q = 0; q < persons; q++) {
                balance += personBeats(q, p) ? 1 : 0;
                balance -= personBeats(p, q) ? 1 : 0;
            }
            return balance > 0 ? 1 : 0;
        }

        int missing(int i) {
            if (!stands) {
                return NOT;
            }
            TreeSet<Integer> all = new TreeSet<>();
            for (int suit = 0; suit < 4; suit++) {
                for (int rank = 1; rank <= 13; rank++) {
                    all.add(13 * suit + rank - 1);
                }
            }
            cards.forEach(c -> all.remove(13 * c[1] + c[0] - 1));
            return pick(new ArrayList<>(all), i);
        }

        int wanted(int what) {
            if (what < 0 || what > 1) {
                return OUTSIDE;
            }
            if (persons == 0) {
                return NONE;
            }
            int best = 0;
            for (int p = 1; p < persons; p++) {
                best = beatCount(p) < beatCount(best) ? p : best;
            }
            return what == 0 ? best : persons - 1 - beatCount(best);
        }

        // ---- what is seen

        int see(int p, int q, int who) {
            if (noPair(p, q)) {
                return UNKNOWN;
            }
            if (who < 0 || who > 2) {
                return OUTSIDE;
            }
            if (seen.size() >= 6) {
                return FULL;
            }
            seen.add(new int[] {p, q, who});
            return seen.size();
        }

        int whose(List<Integer> deal, int p, int q) {
            return new int[] {1, 2, 0}[compareHeld(deal.get(p), deal.get(q)) + 1];
        }

        List<List<Integer>> ways(int n) {
            List<Integer> top = state.pack.subList(0, Math.min(n, state.pack.size()));
            List<List<Integer>> all = new ArrayList<>();
            all.add(new ArrayList<>());
            for (int p = 0; p < Math.min(top.size(), persons); p++) {
                List<List<Integer>> longer = new ArrayList<>();
                for (List<Integer> one : all) {
                    for (Integer c : top) {
                        if (!one.contains(c)) {
                            List<Integer> more = new ArrayList<>(one);
                            more.add(c);
                            longer.add(more);
                        }
                    }
                }
                all = longer;
            }
            all.removeIf(deal -> seen.stream().anyMatch(
                s -> s[0] >= deal.size() || s[1] >= deal.size() || whose(deal, s[0], s[1]) != s[2]));
            return all;
        }

        int deals(int n, int p) {
            if (p != NONE && noPerson(p)) {
                return UNKNOWN;
            }
            if (n < 1 || n > 5) {
                return OUTSIDE;
            }
            List<List<Integer>> all = ways(n);
            if (p == NONE) {
                return all.size();
            }
            Set<Integer> may = new HashSet<>();
            for (List<Integer> deal : all) {
                may.add(p < deal.size() ? deal.get(p) : NONE);
            }
            return may.size() == 1 ? may.iterator().next() : NONE;
        }

        int ask(int n) {
            if (n < 1 || n > 5) {
                return OUTSIDE;
            }
            List<List<Integer>> all = ways(n);
            int best = NONE;
            int least = all.size();
            for (int p = 0; p < 6 && !all.isEmpty(); p++) {
                for (int q = p + 1; q < all.get(0).size(); q++) {
                    int[] parts = new int[3];
                    for (List<Integer> deal : all) {
                        parts[whose(deal, p, q)]++;
                    }
                    if (greatest(parts) < least) {
                        least = greatest(parts);
                        best = 10 * p + q;
                    }
                }
            }
            return best;
        }

        int write(int p, int c) {
            if (noPerson(p) || c != NONE && noCard(c)) {
                return UNKNOWN;
            }
            if (book.size() >= 15) {
                return FULL;
            }
            book.add(new int[] {p, c});
            return book.size();
        }

        int tear() {
            int both = seen.size() + book.size();
            seen.clear();
            book.clear();
            return both;
        }

        int judge() {
            for (int i = 0; i < book.size(); i++) {
                if (cardOf(book.get(i)[0]) != book.get(i)[1]) {
                    return i;
                }
            }
            return NONE;
        }

        int seed(int v) {
            if (v < 0) {
                return OUTSIDE;
            }
            long was = seed;
            seed = v;
            return (int) was;
        }

        int keep(int i) {
            if (i < 0 || i > 1) {
                return UNKNOWN;
            }
            images[i] = state.copy();
            imageSeeds[i] = seed;
            past.clear();
            return 1;
        }

        int goBack(int i) {
            if (i < 0 || i > 1) {
                return UNKNOWN;
            }
            if (images[i] == null) {
                return NOT;
            }
            state = images[i].copy();
            seed = imageSeeds[i];
            past.clear();
            return 1;
        }
    }
}
