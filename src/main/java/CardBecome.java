import java.util.Arrays;

/**
 * A table at which whoever draws a card becomes it. The document's words in capitals (CARD, PACK, LOG, ...)
 * are used here in the same sense; every answer is a whole number, refusals are the constants below NONE.
 */
public final class CardBecome {
    public static final int NONE = -1, UNKNOWN = -1000000001, OUTSIDE = -1000000002, NOT = -1000000003, FULL = -1000000004;

    private static final int MOST_LETTERS = 240;
    private static final int MOST_CARDS = 12;
    private static final int MOST_PERSONS = 6;
    private static final int MOST_LOGGED = 24;
    private static final int MOST_WINS = 999999;
    private static final int MOST_SEEN = 6;
    private static final int MOST_WRITTEN = 15;
    private static final int MOST_UNDONE = 16;
    private static final int MOST_DRIFT = 60;
    private static final int MOST_UNSEEN = 5;
    private static final int MOST_IN_ROW = 10;
    private static final int MOST_IMAGES = 2;
    private static final int MILLION = 1000000;
    private static final int GREATEST_SEED = 2147483647;

    private static final int SUITS = 4;
    private static final int RANKS = 13;
    private static final int KNAVE = 11;
    /** Two ways of L for each of four trump suits and for none. */
    private static final int RULE_KINDS = 10;

    private static final int RIFFLE = 0;
    private static final int TURN = 1;
    private static final int SHUFFLES = 3;

    /** How two cards or persons stand to each other, in the numbers of see(). */
    private static final int FIRST = 0;
    private static final int SECOND = 1;
    private static final int NEITHER = 2;
    private static final int OUTCOMES = 3;

    /** THE SEED. */
    private int chance;
    private final Reader reader;
    private final Table laid;
    private final Play now;
    private final Past past;
    private final Papers papers;
    private final Deals unseen;
    private final Image[] images;
    /** What each person would be, while orders of drawing are tried. */
    private final int[] would = new int[MOST_PERSONS];
    /** A row of places or cards that no call needs after it has ended. */
    private final int[] spare = new int[MOST_CARDS];

    public CardBecome() {
        reader = new Reader();
        laid = new Table();
        now = new Play();
        past = new Past();
        papers = new Papers();
        unseen = new Deals();
        images = new Image[MOST_IMAGES];
        for (int i = 0; i < MOST_IMAGES; i++) {
            images[i] = new Image();
        }
    }

    // ---- the table

    public int feed(int letter) {
        if (letter < 0 || letter > 255) {
            return OUTSIDE;
        }
        return reader.add(letter) ? reader.letters : FULL;
    }

    public int table() {
        reader.read();
        if (reader.fault != 0) {
            return -10 - reader.fault;
        }
        laid.become(reader.draft);
        now.begin(laid.cards);
        papers.empty();
        past.forget();
        for (int i = 0; i < MOST_IMAGES; i++) {
            images[i].kept = false;
        }
        return laid.persons;
    }

    public int fault() {
        return reader.faultAt;
    }

    public int told(int what) {
        switch (what) {
            case 0: return laid.trump;
            case 1: return laid.low;
            case 2: return laid.knave;
            case 3: return laid.cards;
            case 4: return laid.persons;
            case 5: return reader.letters;
            case 6: return now.packed;
            case 7: return now.drawers;
            case 8: return now.holders();
            case 9: return ruler();
            case 10: return now.meetings;
            case 11: return heldRules();
            case 12: return papers.seen;
            case 13: return papers.written;
            case 14: return past.kept;
            default: return OUTSIDE;
        }
    }

    public int card(int c, int what) {
        if (!laid.hasCard(c)) {
            return UNKNOWN;
        }
        switch (what) {
            case 0: return laid.rankOf(c);
            case 1: return laid.suitOf(c);
            case 2: return now.placeOf(c);
            case 3: return now.holderOf(c);
            case 4: return now.drawers >> c & 1;
            default: return OUTSIDE;
        }
    }

    public int pack(int place) {
        return now.cardAt(place);
    }

    public int person(int p, int what) {
        if (!laid.hasPerson(p)) {
            return UNKNOWN;
        }
        switch (what) {
            case 0: return now.cardOf(p);
            case 1: return now.winsOf(p);
            case 2: return beatenBy(p);
            default: return OUTSIDE;
        }
    }

    public int logged(int i, int what) {
        if (what < 0 || what > 2) {
            return OUTSIDE;
        }
        if (i < 0 || i >= now.meetings) {
            return NONE;
        }
        int entry = now.entry(now.meetings - 1 - i);
        int first = Play.firstIn(entry);
        int second = Play.secondIn(entry);
        if (what == 0) {
            return first;
        }
        return what == 1 ? second : winner(first, second, Play.outcomeIn(entry));
    }

    // ---- what is done

    public int drawOne(int p) {
        if (!laid.hasPerson(p)) {
            return UNKNOWN;
        }
        if (!now.canDraw(p)) {
            return NOT;
        }
        past.push(now);
        return now.draw(p);
    }

    public int getBack(int p) {
        if (!laid.hasPerson(p)) {
            return UNKNOWN;
        }
        if (now.cardOf(p) == NONE) {
            return NOT;
        }
        past.push(now);
        return now.giveBack(p);
    }

    public int meet(int p, int q) {
        if (!laid.hasTwoPersons(p, q)) {
            return UNKNOWN;
        }
        past.push(now);
        return winner(p, q, letMeet(p, q));
    }

    public int force(int c) {
        if (!laid.hasCard(c)) {
            return UNKNOWN;
        }
        int place = now.placeOf(c);
        if (place == NONE) {
            return NOT;
        }
        past.push(now);
        now.raise(place);
        return place;
    }

    public int shuffle(int k) {
        if (k < 0 || k >= SHUFFLES) {
            return OUTSIDE;
        }
        if (!laid.stands) {
            return NOT;
        }
        past.push(now);
        now.mix(k, spare);
        return now.cardAt(0);
    }

    public int drawer(int p) {
        if (!laid.hasPerson(p)) {
            return UNKNOWN;
        }
        if (now.cardOf(p) == NONE) {
            return NOT;
        }
        past.push(now);
        return now.putAway(p);
    }

    public int out(int c) {
        if (!laid.hasCard(c)) {
            return UNKNOWN;
        }
        if ((now.drawers >> c & 1) == 0) {
            return NOT;
        }
        past.push(now);
        now.takeOut(c);
        return now.packed;
    }

    public int drift(int n) {
        if (n < 1 || n > MOST_DRIFT) {
            return OUTSIDE;
        }
        if (!laid.stands) {
            return NOT;
        }
        past.push(now);
        if (laid.persons > 0) {
            for (int i = 0; i < n; i++) {
                driftOnce();
            }
        }
        return now.holders();
    }

    public int undo() {
        if (past.kept <= 0) {
            return NOT;
        }
        past.pop(now);
        return past.kept;
    }

    // ---- tried

    public int beats(int c, int d) {
        if (!laid.hasCard(c) || !laid.hasCard(d) || c == d) {
            return UNKNOWN;
        }
        int outcome = laid.between(c, d);
        if (outcome == NEITHER) {
            return 0;
        }
        return outcome == FIRST ? 1 : 2;
    }

    public int rings(int i) {
        int found = 0;
        for (int a = 0; a < laid.persons; a++) {
            for (int b = a + 1; b < laid.persons; b++) {
                for (int c = a + 1; c < laid.persons; c++) {
                    if (isRing(a, b, c)) {
                        if (found == i) {
                            return 100 * a + 10 * b + c;
                        }
                        found++;
                    }
                }
            }
        }
        return i == NONE ? found : NONE;
    }

    public int order(int set) {
        if (set < 0 || set >= 1 << laid.persons) {
            return UNKNOWN;
        }
        int themselves = 0;
        for (int p = 0; p < MOST_PERSONS; p++) {
            would[p] = now.cardOf(p);
            if (p < laid.persons && would[p] == NONE) {
                themselves++;
            }
        }
        return orderFrom(0, Math.min(themselves, now.packed), set, 0);
    }

    public int row(int c, int k, int what) {
        if (!laid.hasCard(c)) {
            return UNKNOWN;
        }
        if (k < 0 || k >= MOST_CARDS || what < 0 || what > 1) {
            return OUTSIDE;
        }
        int place = now.placeOf(c);
        if (place == NONE) {
            return NOT;
        }
        countSteps(k);
        int steps = stepsFrom(place);
        return what == 0 ? steps : firstStep(place, steps);
    }

    public int tells() {
        int held = heldRules();
        int best = Integer.bitCount(held);
        int answer = NONE;
        for (int c = 0; c < laid.cards; c++) {
            for (int d = c + 1; d < laid.cards; d++) {
                int part = greatestPart(c, d, held);
                if (part < best) {
                    best = part;
                    answer = 100 * c + d;
                }
            }
        }
        return answer;
    }

    public int odds(int p, int q) {
        if (!laid.hasTwoPersons(p, q)) {
            return UNKNOWN;
        }
        int many = 0;
        for (int place = 0; place < now.packed; place++) {
            if (laid.between(now.cardAt(place), now.cardOf(q)) == FIRST) {
                many++;
            }
        }
        return now.packed <= 0 ? 0 : MILLION * many / now.packed;
    }

    public int back(int p) {
        if (!laid.hasPerson(p)) {
            return UNKNOWN;
        }
        if (now.cardOf(p) == NONE) {
            return NOT;
        }
        int above = 0;
        for (int q = 0; q < laid.persons; q++) {
            if (winsOver(q, p)) {
                above++;
            }
        }
        return above > Integer.bitCount(beatenBy(p)) ? 1 : 0;
    }

    public int missing(int i) {
        if (!laid.stands) {
            return NOT;
        }
        int found = 0;
        for (int one = 0; one < SUITS * RANKS; one++) {
            if (!laid.hasTold(one)) {
                if (found == i) {
                    return one;
                }
                found++;
            }
        }
        return i == NONE ? found : NONE;
    }

    public int wanted(int what) {
        if (what < 0 || what > 1) {
            return OUTSIDE;
        }
        int who = NONE;
        int fewest = MOST_PERSONS;
        for (int p = 0; p < laid.persons; p++) {
            int many = Integer.bitCount(beatenBy(p));
            if (many < fewest) {
                fewest = many;
                who = p;
            }
        }
        if (who == NONE || what == 0) {
            return who;
        }
        return laid.persons - 1 - fewest;
    }

    // ---- what is seen

    public int see(int p, int q, int who) {
        if (!laid.hasTwoPersons(p, q)) {
            return UNKNOWN;
        }
        if (who < FIRST || who > NEITHER) {
            return OUTSIDE;
        }
        return papers.addSeen(p, q, who) ? papers.seen : FULL;
    }

    public int deals(int n, int p) {
        if (p != NONE && !laid.hasPerson(p)) {
            return UNKNOWN;
        }
        if (n < 1 || n > MOST_UNSEEN) {
            return OUTSIDE;
        }
        unseen.lay(n, laid, now, papers);
        return p == NONE ? unseen.ways : unseen.sureOf(p);
    }

    public int ask(int n) {
        if (n < 1 || n > MOST_UNSEEN) {
            return OUTSIDE;
        }
        unseen.lay(n, laid, now, papers);
        return unseen.bestPair();
    }

    public int write(int p, int c) {
        if (!laid.hasPerson(p) || c != NONE && !laid.hasCard(c)) {
            return UNKNOWN;
        }
        return papers.addWritten(p, c) ? papers.written : FULL;
    }

    public int tear() {
        int both = papers.seen + papers.written;
        papers.empty();
        return both;
    }

    public int judge() {
        for (int i = 0; i < papers.written; i++) {
            if (now.cardOf(papers.writtenPerson(i)) != papers.writtenCard(i)) {
                return i;
            }
        }
        return NONE;
    }

    // ---- draws, images

    public int seed(int v) {
        if (v < 0) {
            return OUTSIDE;
        }
        int was = chance;
        chance = v;
        return was;
    }

    public int keep(int i) {
        if (i < 0 || i >= MOST_IMAGES) {
            return UNKNOWN;
        }
        images[i].play.become(now);
        images[i].chance = chance;
        images[i].kept = true;
        past.forget();
        return 1;
    }

    public int goBack(int i) {
        if (i < 0 || i >= MOST_IMAGES) {
            return UNKNOWN;
        }
        if (!images[i].kept) {
            return NOT;
        }
        now.become(images[i].play);
        chance = images[i].chance;
        past.forget();
        return 1;
    }

    // ---- who beats whom

    private static int winner(int p, int q, int outcome) {
        if (outcome == NEITHER) {
            return NONE;
        }
        return outcome == FIRST ? p : q;
    }

    private boolean winsOver(int p, int q) {
        return laid.between(now.cardOf(p), now.cardOf(q)) == FIRST;
    }

    private int beatenBy(int p) {
        int set = 0;
        for (int q = 0; q < laid.persons; q++) {
            if (winsOver(p, q)) {
                set |= 1 << q;
            }
        }
        return set;
    }

    private int ruler() {
        int who = NONE;
        int most = 0;
        for (int p = 0; p < laid.persons; p++) {
            int many = Integer.bitCount(beatenBy(p));
            if (many > most) {
                most = many;
                who = p;
            }
        }
        return who;
    }

    private boolean isRing(int a, int b, int c) {
        return winsOver(a, b) && winsOver(b, c) && winsOver(c, a);
    }

    private int letMeet(int p, int q) {
        int outcome = laid.between(now.cardOf(p), now.cardOf(q));
        now.noteMeeting(p, q, outcome);
        return outcome;
    }

    // ---- draws

    private int nextDraw(int n) {
        chance = chance * 1103515245 + 12345 & GREATEST_SEED;
        return n <= 0 ? 0 : chance / 65536 % n;
    }

    private void driftOnce() {
        int p = nextDraw(laid.persons);
        int what = nextDraw(5);
        if (what <= 1) {
            now.draw(p);
        } else if (what == 2) {
            now.giveBack(p);
        } else if (what == 3) {
            // The other one is drawn for even if it turns out to be the same: the seed goes on by it.
            int q = nextDraw(laid.persons);
            if (p != q) {
                letMeet(p, q);
            }
        } else {
            now.mix(nextDraw(SHUFFLES), spare);
        }
    }

    // ---- orders of drawing

    /** Tries all who may draw next, the least first: so the first order that is found is the least number. */
    private int orderFrom(int turn, int turns, int set, int figures) {
        if (turn >= turns || turn >= MOST_PERSONS) {
            return setWins(set) ? figures : NONE;
        }
        for (int p = 0; p < laid.persons && p < MOST_PERSONS; p++) {
            if (would[p] == NONE) {
                would[p] = now.cardAt(turn);
                int found = isNoHindrance(p, set) ? orderFrom(turn + 1, turns, set, 10 * figures + p + 1) : NONE;
                would[p] = NONE;
                if (found != NONE) {
                    return found;
                }
            }
        }
        return NONE;
    }

    /** Who is a card by now stays it, so an order is given up as soon as one of these spoils it. */
    private boolean isNoHindrance(int p, int set) {
        int side = set >> p & 1;
        int due = side == 1 ? FIRST : SECOND;
        for (int q = 0; q < laid.persons; q++) {
            boolean settled = (set >> q & 1) != side && wouldBe(q) != NONE;
            if (settled && laid.between(wouldBe(p), wouldBe(q)) != due) {
                return false;
            }
        }
        return true;
    }

    private boolean setWins(int set) {
        for (int p = 0; p < laid.persons; p++) {
            for (int q = 0; q < laid.persons; q++) {
                boolean asked = (set >> p & 1) == 1 && (set >> q & 1) == 0;
                if (asked && laid.between(wouldBe(p), wouldBe(q)) != FIRST) {
                    return false;
                }
            }
        }
        return true;
    }

    private int wouldBe(int p) {
        return p < 0 || p >= MOST_PERSONS ? NONE : would[p];
    }

    // ---- rows of shuffles

    /** Where a shuffle brings what lies at a place of a pack of n. */
    private static int placeAfter(int kind, int place, int n) {
        if (kind == RIFFLE) {
            int half = n / 2;
            return place < half ? 2 * place + 1 : 2 * (place - half);
        }
        if (kind == TURN) {
            return n - 1 - place;
        }
        return place == 0 ? n - 1 : place - 1;
    }

    /** Backwards from the place that is wanted, so that the spare row has the steps from every place to it. */
    private void countSteps(int wantedPlace) {
        Arrays.fill(spare, NONE);
        if (wantedPlace < 0 || wantedPlace >= MOST_CARDS) {
            return;
        }
        spare[wantedPlace] = 0;
        for (int steps = 1; steps <= MOST_IN_ROW; steps++) {
            for (int place = 0; place < now.packed && place < MOST_CARDS; place++) {
                if (stepsFrom(place) == NONE && stepTo(place, steps - 1) != NONE) {
                    spare[place] = steps;
                }
            }
        }
    }

    private int stepsFrom(int place) {
        return place < 0 || place >= MOST_CARDS ? NONE : spare[place];
    }

    /** The first shuffle that leads to a place from which so many steps are left. */
    private int stepTo(int place, int left) {
        for (int kind = 0; kind < SHUFFLES; kind++) {
            if (stepsFrom(placeAfter(kind, place, now.packed)) == left) {
                return kind;
            }
        }
        return NONE;
    }

    private int firstStep(int place, int steps) {
        return steps <= 0 ? NONE : stepTo(place, steps - 1);
    }

    // ---- rules that are held

    private int heldRules() {
        int held = 0;
        for (int rule = 0; rule < RULE_KINDS; rule++) {
            if (fitsLog(rule)) {
                held |= 1 << rule;
            }
        }
        return held;
    }

    private boolean fitsLog(int rule) {
        for (int i = 0; i < now.meetings; i++) {
            int entry = now.entry(i);
            int c = Play.firstCardIn(entry);
            int d = Play.secondCardIn(entry);
            if (c != NONE && d != NONE && laid.byRule(c, d, rule) != Play.outcomeIn(entry)) {
                return false;
            }
        }
        return true;
    }

    private int greatestPart(int c, int d, int held) {
        int first = 0;
        int second = 0;
        int neither = 0;
        for (int rule = 0; rule < RULE_KINDS; rule++) {
            if ((held >> rule & 1) == 1) {
                int outcome = laid.byRule(c, d, rule);
                if (outcome == FIRST) {
                    first++;
                } else if (outcome == SECOND) {
                    second++;
                } else {
                    neither++;
                }
            }
        }
        return Math.max(first, Math.max(second, neither));
    }

    /** What a text tells: rules, cards, persons. Without one there are none of these and no trump. */
    private static final class Table {
        boolean stands;
        int trump = NONE;
        int low;
        int knave;
        int cards;
        int persons;
        /** Bit 13 times the suit and the rank less 1 for each card that was told. */
        long told;
        private final int[] rank = new int[MOST_CARDS];
        private final int[] suit = new int[MOST_CARDS];
        /** For each card the set of those that it beats by the told rules, which all that is tried asks for again and again. */
        private final int[] beaten = new int[MOST_CARDS];

        void clear() {
            stands = false;
            trump = NONE;
            low = 0;
            knave = 0;
            cards = 0;
            persons = 0;
            told = 0L;
        }

        void become(Table other) {
            stands = other.stands;
            trump = other.trump;
            low = other.low;
            knave = other.knave;
            cards = other.cards;
            persons = other.persons;
            told = other.told;
            System.arraycopy(other.rank, 0, rank, 0, MOST_CARDS);
            System.arraycopy(other.suit, 0, suit, 0, MOST_CARDS);
            for (int c = 0; c < MOST_CARDS; c++) {
                beaten[c] = allBeatenBy(c);
            }
        }

        private int allBeatenBy(int c) {
            int set = 0;
            for (int d = 0; c < cards && d < cards; d++) {
                if (byTrump(c, d, trump, low) == FIRST) {
                    set |= 1 << d;
                }
            }
            return set;
        }

        static int oneOfAll(int r, int s) {
            return RANKS * s + r - 1;
        }

        boolean hasTold(int one) {
            return (told >> one & 1L) == 1L;
        }

        void addCard(int r, int s) {
            if (cards >= 0 && cards < MOST_CARDS) {
                rank[cards] = r;
                suit[cards] = s;
                cards++;
                told |= 1L << oneOfAll(r, s);
            }
        }

        boolean hasCard(int c) {
            return c >= 0 && c < cards;
        }

        boolean hasPerson(int p) {
            return p >= 0 && p < persons;
        }

        boolean hasTwoPersons(int p, int q) {
            return hasPerson(p) && hasPerson(q) && p != q;
        }

        int rankOf(int c) {
            return c < 0 || c >= MOST_CARDS ? NONE : rank[c];
        }

        int suitOf(int c) {
            return c < 0 || c >= MOST_CARDS ? NONE : suit[c];
        }

        /** Of two who are these cards, or themselves (NONE), by the rules that were told. */
        int between(int c, int d) {
            if (isBeaten(d, c)) {
                return FIRST;
            }
            return isBeaten(c, d) ? SECOND : NEITHER;
        }

        private boolean isBeaten(int loser, int winner) {
            if (winner < 0 || winner >= MOST_CARDS) {
                return false;
            }
            return loser == NONE || (beaten[winner] >> loser & 1) == 1;
        }

        /** Of two cards, by one of the ten rules; what a knave does is as told. */
        int byRule(int c, int d, int rule) {
            return byTrump(c, d, rule / 2, rule % 2);
        }

        private int byTrump(int c, int d, int trumpSuit, int lowWins) {
            boolean trumpC = suitOf(c) == trumpSuit;
            boolean trumpD = suitOf(d) == trumpSuit;
            if (trumpC != trumpD) {
                return trumpC ? FIRST : SECOND;
            }
            int rankC = rankOf(c);
            int rankD = rankOf(d);
            if (knave == 1 && suitOf(c) == suitOf(d) && (rankC == KNAVE) != (rankD == KNAVE)) {
                return rankC == KNAVE ? FIRST : SECOND;
            }
            if (rankC == rankD) {
                return NEITHER;
            }
            return rankC > rankD == (lowWins == 0) ? FIRST : SECOND;
        }
    }

    /** THE TEXT, read into a draft of a table up to its first fault: so a faulty one leaves the table alone. */
    private static final class Reader {
        final Table draft = new Table();
        int fault;
        int faultAt = NONE;
        int letters;
        private final int[] text = new int[MOST_LETTERS];
        private int at;

        boolean add(int letter) {
            if (letters < 0 || letters >= MOST_LETTERS) {
                return false;
            }
            text[letters] = letter;
            letters++;
            return true;
        }

        /** Whatever comes of it, the text is empty afterwards. */
        void read() {
            at = 0;
            fault = 0;
            faultAt = NONE;
            draft.clear();
            // Blanks tell nothing, so a text of blanks alone is as an empty one.
            skipBlanks();
            if (at < letters) {
                readAll();
            }
            letters = 0;
        }

        private void readAll() {
            draft.stands = true;
            readRules();
            skipBlanks();
            // Every clause takes a letter at least, so there are never more of them than letters.
            for (int clause = 0; clause < MOST_LETTERS && fault == 0 && at < letters; clause++) {
                readClause();
                skipBlanks();
            }
        }

        private void readRules() {
            takeWord('r');
            draft.trump = number(0, SUITS);
            draft.low = number(0, 1);
            draft.knave = number(0, 1);
            takeWord(';');
        }

        private void readClause() {
            int word = letterAt(at);
            if (word == 'c') {
                readCard();
            } else if (word == 'p') {
                readPerson();
            } else {
                fail(word == 'r' ? 3 : 1, at);
            }
        }

        private void readCard() {
            if (draft.cards >= MOST_CARDS) {
                fail(3, at);
            }
            takeWord('c');
            int r = number(1, RANKS);
            skipBlanks();
            int suitAt = at;
            int s = number(0, SUITS - 1);
            if (fault == 0 && draft.hasTold(Table.oneOfAll(r, s))) {
                fail(4, suitAt);
            }
            takeWord(';');
            if (fault == 0) {
                draft.addCard(r, s);
            }
        }

        private void readPerson() {
            if (draft.persons >= MOST_PERSONS) {
                fail(3, at);
            }
            takeWord('p');
            takeWord(';');
            if (fault == 0) {
                draft.persons++;
            }
        }

        /** A text is read from left to right, so the first fault that is found is the first there is. */
        private void fail(int number, int place) {
            if (fault == 0) {
                fault = number;
                faultAt = place;
            }
        }

        /** NONE at the end, which is no letter. */
        private int letterAt(int place) {
            return place < 0 || place >= letters || place >= MOST_LETTERS ? NONE : text[place];
        }

        private void skipBlanks() {
            while (at < letters && letterAt(at) == ' ') {
                at++;
            }
        }

        private void takeWord(int word) {
            skipBlanks();
            if (letterAt(at) == word) {
                at++;
            } else {
                fail(1, at);
            }
        }

        private boolean isFigure(int letter) {
            return letter >= '0' && letter <= '9';
        }

        private int number(int least, int most) {
            skipBlanks();
            int start = at;
            int value = 0;
            while (at < letters && isFigure(letterAt(at))) {
                // Beyond three figures the value does not matter any more, and must not grow without end.
                if (at - start < 3) {
                    value = 10 * value + letterAt(at) - '0';
                }
                at++;
            }
            if (at == start) {
                fail(1, start);
            } else if (at - start > 3 || value < least || value > most) {
                fail(2, start);
            }
            return value;
        }
    }

    /** All of section 2: the pack, who is what, wins, drawers, the log. */
    private static final class Play {
        int packed;
        /** The set of cards that are in drawers. */
        int drawers;
        int meetings;
        private final int[] pack = new int[MOST_CARDS];
        private final int[] held = new int[MOST_PERSONS];
        private final int[] wins = new int[MOST_PERSONS];
        /** The oldest first; one number each, so that to keep what was is to copy one short row. */
        private final int[] log = new int[MOST_LOGGED];

        Play() {
            Arrays.fill(held, NONE);
        }

        void begin(int cards) {
            packed = Math.min(cards, MOST_CARDS);
            for (int place = 0; place < MOST_CARDS; place++) {
                pack[place] = place;
            }
            drawers = 0;
            meetings = 0;
            Arrays.fill(held, NONE);
            Arrays.fill(wins, 0);
        }

        void become(Play other) {
            packed = other.packed;
            drawers = other.drawers;
            meetings = other.meetings;
            System.arraycopy(other.pack, 0, pack, 0, MOST_CARDS);
            System.arraycopy(other.held, 0, held, 0, MOST_PERSONS);
            System.arraycopy(other.wins, 0, wins, 0, MOST_PERSONS);
            System.arraycopy(other.log, 0, log, 0, MOST_LOGGED);
        }

        private static boolean isPerson(int p) {
            return p >= 0 && p < MOST_PERSONS;
        }

        int cardOf(int p) {
            return isPerson(p) ? held[p] : NONE;
        }

        int winsOf(int p) {
            return isPerson(p) ? wins[p] : 0;
        }

        int cardAt(int place) {
            return place < 0 || place >= packed || place >= MOST_CARDS ? NONE : pack[place];
        }

        int placeOf(int c) {
            for (int place = 0; place < packed; place++) {
                if (cardAt(place) == c) {
                    return place;
                }
            }
            return NONE;
        }

        int holderOf(int c) {
            for (int p = 0; p < MOST_PERSONS; p++) {
                if (held[p] == c) {
                    return p;
                }
            }
            return NONE;
        }

        int holders() {
            int set = 0;
            for (int p = 0; p < MOST_PERSONS; p++) {
                if (held[p] != NONE) {
                    set |= 1 << p;
                }
            }
            return set;
        }

        boolean canDraw(int p) {
            return isPerson(p) && held[p] == NONE && packed > 0;
        }

        /** Nothing happens to one who can not, as evenings by draws want it. */
        int draw(int p) {
            if (!canDraw(p)) {
                return NONE;
            }
            int c = cardAt(0);
            held[p] = c;
            for (int place = 1; place < packed && place < MOST_CARDS; place++) {
                pack[place - 1] = pack[place];
            }
            packed--;
            return c;
        }

        /** Nothing happens to one who is itself, as evenings by draws want it. */
        int giveBack(int p) {
            int c = layDown(p);
            if (c != NONE) {
                putBelow(c);
            }
            return c;
        }

        int putAway(int p) {
            int c = layDown(p);
            if (c != NONE) {
                drawers |= 1 << c;
            }
            return c;
        }

        void takeOut(int c) {
            drawers &= ~(1 << c);
            putBelow(c);
        }

        void raise(int place) {
            int c = cardAt(place);
            if (c == NONE) {
                return;
            }
            for (int i = place; i > 0 && i < MOST_CARDS; i--) {
                pack[i] = pack[i - 1];
            }
            pack[0] = c;
        }

        void mix(int kind, int[] row) {
            if (packed <= 0 || packed > MOST_CARDS || packed > row.length) {
                return;
            }
            for (int place = 0; place < packed; place++) {
                int then = placeAfter(kind, place, packed);
                if (then >= 0 && then < packed) {
                    row[then] = pack[place];
                }
            }
            System.arraycopy(row, 0, pack, 0, packed);
        }

        private int layDown(int p) {
            int c = cardOf(p);
            if (isPerson(p)) {
                held[p] = NONE;
            }
            return c;
        }

        private void putBelow(int c) {
            if (packed >= 0 && packed < MOST_CARDS) {
                pack[packed] = c;
                packed++;
            }
        }

        void noteMeeting(int p, int q, int outcome) {
            if (outcome == FIRST) {
                countWin(p);
            } else if (outcome == SECOND) {
                countWin(q);
            }
            if (meetings >= MOST_LOGGED) {
                System.arraycopy(log, 1, log, 0, MOST_LOGGED - 1);
                meetings = MOST_LOGGED - 1;
            }
            if (meetings >= 0) {
                log[meetings] = p | q << 4 | cardOf(p) + 1 << 8 | cardOf(q) + 1 << 12 | outcome << 16;
                meetings++;
            }
        }

        private void countWin(int p) {
            if (isPerson(p) && wins[p] < MOST_WINS) {
                wins[p]++;
            }
        }

        int entry(int i) {
            return i < 0 || i >= meetings || i >= MOST_LOGGED ? 0 : log[i];
        }

        static int firstIn(int entry) {
            return entry & 15;
        }

        static int secondIn(int entry) {
            return entry >> 4 & 15;
        }

        static int firstCardIn(int entry) {
            return (entry >> 8 & 15) - 1;
        }

        static int secondCardIn(int entry) {
            return (entry >> 12 & 15) - 1;
        }

        static int outcomeIn(int entry) {
            return entry >> 16 & 3;
        }
    }

    /** What can be undone: a ring of plays, in which the latest take the places of the oldest. */
    private static final class Past {
        int kept;
        private int next;
        private final Play[] plays = new Play[MOST_UNDONE];

        Past() {
            for (int i = 0; i < MOST_UNDONE; i++) {
                plays[i] = new Play();
            }
        }

        void forget() {
            kept = 0;
        }

        void push(Play play) {
            next = Math.floorMod(next, MOST_UNDONE);
            plays[next].become(play);
            next = (next + 1) % MOST_UNDONE;
            kept = Math.min(kept + 1, MOST_UNDONE);
        }

        void pop(Play play) {
            if (kept > 0) {
                next = Math.floorMod(next - 1, MOST_UNDONE);
                play.become(plays[next]);
                kept--;
            }
        }
    }

    private static final class Image {
        boolean kept;
        int chance;
        final Play play = new Play();
    }

    /** What is seen and the book. */
    private static final class Papers {
        int seen;
        int written;
        private final int[] seenFirst = new int[MOST_SEEN];
        private final int[] seenSecond = new int[MOST_SEEN];
        private final int[] seenWho = new int[MOST_SEEN];
        private final int[] persons = new int[MOST_WRITTEN];
        private final int[] cards = new int[MOST_WRITTEN];

        void empty() {
            seen = 0;
            written = 0;
        }

        boolean addSeen(int p, int q, int who) {
            if (seen < 0 || seen >= MOST_SEEN) {
                return false;
            }
            seenFirst[seen] = p;
            seenSecond[seen] = q;
            seenWho[seen] = who;
            seen++;
            return true;
        }

        boolean addWritten(int p, int c) {
            if (written < 0 || written >= MOST_WRITTEN) {
                return false;
            }
            persons[written] = p;
            cards[written] = c;
            written++;
            return true;
        }

        private static int entry(int[] row, int i, int many) {
            return i < 0 || i >= many || i >= row.length ? NONE : row[i];
        }

        int firstSeen(int i) {
            return entry(seenFirst, i, seen);
        }

        int secondSeen(int i) {
            return entry(seenSecond, i, seen);
        }

        int whoSeen(int i) {
            return entry(seenWho, i, seen);
        }

        int writtenPerson(int i) {
            return entry(persons, i, written);
        }

        int writtenCard(int i) {
            return entry(cards, i, written);
        }
    }

    /** All ways in which unseen cards can lie before the persons, counted at once for all that is asked of them. */
    private static final class Deals {
        int ways;
        private int cards;
        private int holders;
        private final int[] top = new int[MOST_UNSEEN];
        /** The way that is being tried: the card before each person. */
        private final int[] lies = new int[MOST_PERSONS];
        /** The card before each person in all ways up to now, or NONE. */
        private final int[] sure = new int[MOST_PERSONS];
        /** For each pair of persons and each outcome, in how many ways it is so. */
        private final int[] parts = new int[MOST_PERSONS * MOST_PERSONS * OUTCOMES];

        void lay(int n, Table table, Play play, Papers papers) {
            cards = Math.min(n, Math.min(play.packed, MOST_UNSEEN));
            holders = Math.min(cards, Math.min(table.persons, MOST_PERSONS));
            for (int place = 0; place < MOST_UNSEEN; place++) {
                top[place] = play.cardAt(place);
            }
            ways = 0;
            Arrays.fill(sure, NONE);
            Arrays.fill(parts, 0);
            layFrom(0, 0, table, papers);
        }

        int sureOf(int p) {
            return p < 0 || p >= MOST_PERSONS ? NONE : sure[p];
        }

        int bestPair() {
            int best = ways;
            int answer = NONE;
            for (int p = 0; p < holders; p++) {
                for (int q = p + 1; q < holders; q++) {
                    int part = greatest(p, q);
                    if (part < best) {
                        best = part;
                        answer = 10 * p + q;
                    }
                }
            }
            return answer;
        }

        private void layFrom(int p, int used, Table table, Papers papers) {
            if (p < 0 || p >= holders || p >= MOST_PERSONS) {
                if (isAsSeen(table, papers)) {
                    countThis(table);
                }
                return;
            }
            for (int place = 0; place < cards && place < MOST_UNSEEN; place++) {
                if ((used >> place & 1) == 0) {
                    lies[p] = top[place];
                    layFrom(p + 1, used | 1 << place, table, papers);
                }
            }
        }

        private int cardBefore(int p) {
            return p < 0 || p >= holders || p >= MOST_PERSONS ? NONE : lies[p];
        }

        private boolean isAsSeen(Table table, Papers papers) {
            for (int i = 0; i < papers.seen; i++) {
                int c = cardBefore(papers.firstSeen(i));
                int d = cardBefore(papers.secondSeen(i));
                if (c == NONE || d == NONE || table.between(c, d) != papers.whoSeen(i)) {
                    return false;
                }
            }
            return true;
        }

        private void countThis(Table table) {
            for (int p = 0; p < holders && p < MOST_PERSONS; p++) {
                if (ways == 0) {
                    sure[p] = lies[p];
                } else if (sure[p] != lies[p]) {
                    sure[p] = NONE;
                }
                for (int q = p + 1; q < holders; q++) {
                    int part = partOf(p, q, table.between(lies[p], cardBefore(q)));
                    if (part >= 0 && part < parts.length) {
                        parts[part]++;
                    }
                }
            }
            ways++;
        }

        private static int partOf(int p, int q, int outcome) {
            return (MOST_PERSONS * p + q) * OUTCOMES + outcome;
        }

        private int greatest(int p, int q) {
            int most = 0;
            for (int outcome = 0; outcome < OUTCOMES; outcome++) {
                int part = partOf(p, q, outcome);
                if (part >= 0 && part < parts.length) {
                    most = Math.max(most, parts[part]);
                }
            }
            return most;
        }
    }
}
