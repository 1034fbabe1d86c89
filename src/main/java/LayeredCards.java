/**
 * Cards that change the rules: two players, layered values, replaced events, a pile of answers.
 *
 * Every row is made once, in a constructor, and used again by every call: no call makes an object.
 * Rows are read by at() and written by put() alone, which test the index first.
 */
public final class LayeredCards {
    public static final int BAD = -1, NOT = -2, FULL = -3, STATE = -5;
    public static final int VOID = -2000000000;

    private static final int NOTHING_THERE = -11, OTHER_FAMILY = -12, FAULT_BASE = -100;

    private static final int CARD_ROOM = 24, VALUE_ROOM = 4, PILE_ROOM = 64, TAPE_ROOM = 120;
    private static final int HANDLE_ROOM = 8, LOG_ROOM = 40, RUN_LIMIT = 200;

    /** BASES, VALUES and LIVES are held within -LIMIT .. LIMIT, AMOUNTS within 0 .. LIMIT. */
    private static final int LIMIT = 99, FIRST_LIFE = 20, GREATEST_A = 9, GREATEST_V = 3;

    private static final int ADD = 0, TIMES = 1, SET = 2, LIKE = 3, MORE = 4;
    private static final int TWICE = 5, AWAY = 6, LESS = 7, TURN = 8;
    private static final int STRIKE = 9, HEAL = 10, FETCH = 11, STOP = 12, CLEAR = 13;
    private static final int ECHO = 14, KINDS = 15;

    private static final int ANY = 0, LAYER = 1, REPLACER = 2, ANSWER = 3, WATCHER = 4;

    private static final int IN_DECK = 0, IN_HAND = 1, ON_PILE = 2, ON_TABLE = 3, GONE = 4;

    private static final int DRAW = 0, HIT = 1, MEND = 2, TYPES = 3;

    /** A thing on the PILE is a CARD's number, or SHADOW plus its EVENT as it is told. */
    private static final int SHADOW = 10000, PER_TYPE = 1000, PER_PLAYER = 100;

    private static final int END_EMPTY = 0, END_LOST = 1, END_LOOP = 2, END_LIMIT = 3;

    private static final int MOST_BY_TURNS = 3, CHOICES = 3, MOST_AHEAD = 9;

    private final Cards cards = new Cards();
    private final Game game = new Game(cards);
    private final Game image = new Game(cards);
    private boolean hasImage = false;

    private final Game thought = new Game(cards);
    /** A game in thought ahead of and behind each play of byTurns(); the first is 'thought'. */
    private final Game[] thoughts = new Game[MOST_BY_TURNS + 1];

    private final Rules rules = new Rules(cards);
    private final Layering layering = new Layering(cards);
    private final Event event = new Event(cards);
    private final Log log = new Log();
    /** What is resolved in thought, or happens by a TURN, is told nowhere. */
    private final Log unread = new Log();
    private final Tape tape = new Tape();
    private final int[] handles = new int[HANDLE_ROOM];

    private int lastEnd = END_EMPTY, lastEarlier = NOT, lastBetween = NOT;

    public LayeredCards() {
        for (int i = 0; i < thoughts.length; i++) {
            thoughts[i] = i == 0 ? thought : new Game(cards);
        }
        for (int i = 0; i < handles.length; i++) {
            handles[i] = NOT;
        }
    }

    // ---- cards

    public int card(int kind, int owner, int vw, int a) {
        if (kind < ADD || kind >= KINDS || !isPlayer(owner) || !isPair(vw)
                || a < -GREATEST_A || a > GREATEST_A) {
            return BAD;
        }
        if (game.cardCount >= CARD_ROOM) {
            return FULL;
        }
        return game.addCard(kind, owner, vw, a);
    }

    public int feed(int letter) {
        if (letter < 0 || letter > 255) {
            return BAD;
        }
        return tape.append(letter) ? tape.length : FULL;
    }

    public int deck() {
        int answer = deckOnTape();
        tape.length = 0;
        return answer;
    }

    private int deckOnTape() {
        int fault = tape.readText();
        if (fault >= 0) {
            return FAULT_BASE - fault;
        }
        if (game.cardCount + tape.lines > CARD_ROOM) {
            return FULL;
        }
        for (int i = 0; i < tape.lines; i++) {
            game.addCard(at(tape.kinds, i), at(tape.owners, i), at(tape.vws, i), at(tape.as, i));
        }
        return tape.lines;
    }

    public int of(int card, int what) {
        if (!game.has(card)) {
            return BAD;
        }
        switch (what) {
            case 0:
                return at(cards.kinds, card);
            case 1:
                return at(cards.owners, card);
            case 2:
                return at(cards.vs, card);
            case 3:
                return at(cards.ws, card);
            case 4:
                return at(cards.as, card) + 10;
            case 5:
                return at(game.places, card);
            case 6:
                return at(game.places, card) == ON_TABLE ? at(game.ages, card) : NOT;
            default:
                return BAD;
        }
    }

    public int deal(int card) {
        if (!game.has(card)) {
            return BAD;
        }
        if (at(game.places, card) != IN_DECK) {
            return STATE;
        }
        game.moveTo(card, IN_HAND);
        return 1;
    }

    public int base(int value, int n) {
        if (value < 0 || value >= VALUE_ROOM || n < -LIMIT || n > LIMIT) {
            return VOID;
        }
        int before = at(game.bases, value);
        put(game.bases, value, n);
        return before;
    }

    public int mend(int player, int n) {
        if (!isPlayer(player) || n < -LIMIT || n > LIMIT) {
            return VOID;
        }
        int before = at(game.lives, player);
        put(game.lives, player, n);
        return before;
    }

    public int player(int player, int what) {
        if (!isPlayer(player)) {
            return VOID;
        }
        switch (what) {
            case 0:
                return at(game.lives, player);
            case 1:
                return game.countIn(player, IN_DECK);
            case 2:
                return game.countIn(player, IN_HAND);
            case 3:
                return game.countIn(player, ON_TABLE);
            case 4:
                return game.countIn(player, GONE);
            default:
                return VOID;
        }
    }

    // ---- values, events

    public int value(int value) {
        if (value < 0 || value >= VALUE_ROOM) {
            return VOID;
        }
        layering.workOut(game);
        return at(layering.values, value);
    }

    public int layer(int i) {
        if (i < 0) {
            return BAD;
        }
        layering.workOut(game);
        return i < layering.usedCount ? at(layering.order, i) : NOT;
    }

    public int depends(int one, int other) {
        if (one == other || !isLayerOnTable(one) || !isLayerOnTable(other)) {
            return BAD;
        }
        return looksAtOther(at(cards.kinds, one)) && at(cards.ws, one) == at(cards.vs, other) ? 1 : 0;
    }

    private boolean isLayerOnTable(int card) {
        return game.has(card) && at(game.places, card) == ON_TABLE
                && familyOf(at(cards.kinds, card)) == LAYER;
    }

    public int used(int tpa, int k) {
        if (tpa < 0 || tpa / PER_TYPE >= TYPES || tpa % PER_TYPE >= 2 * PER_PLAYER || k < -2) {
            return BAD;
        }
        event.becomeTold(tpa);
        event.replaceBy(game);
        if (k == -1) {
            return event.told();
        }
        if (k == -2) {
            return event.usedCount;
        }
        return k < event.usedCount ? at(event.used, k) : NOT;
    }

    // ---- the pile

    public int play(int card) {
        if (!game.has(card)) {
            return BAD;
        }
        if (at(game.places, card) != IN_HAND) {
            return STATE;
        }
        if (game.height >= PILE_ROOM) {
            return FULL;
        }
        game.playCard(card);
        return game.height;
    }

    public int pile(int i) {
        if (i < 0) {
            return BAD;
        }
        return i < game.height ? at(game.pile, game.height - 1 - i) : NOT;
    }

    public int resolve() {
        if (game.height <= 0) {
            return STATE;
        }
        log.empty();
        rules.resolveTop(game, log);
        return game.height;
    }

    public int run() {
        log.empty();
        rules.runPile(game, log);
        lastEnd = rules.end;
        lastEarlier = rules.earlier;
        lastBetween = rules.between;
        return rules.times;
    }

    public int ended(int what) {
        switch (what) {
            case 0:
                return lastEnd;
            case 1:
                return lastEarlier;
            case 2:
                return lastBetween;
            default:
                return BAD;
        }
    }

    public int turn() {
        if (!game.isQuiet()) {
            return STATE;
        }
        rules.takeTurn(game, unread);
        return game.active;
    }

    // ---- in thought

    public int dry(int what) {
        if (what < 0 || what > 3) {
            return VOID;
        }
        thought.copyFrom(game);
        rules.runPile(thought, unread);
        switch (what) {
            case 0:
                return rules.end;
            case 1:
                return rules.times;
            case 2:
                return at(thought.lives, 0);
            default:
                return at(thought.lives, 1);
        }
    }

    public int worth(int card) {
        if (!game.has(card) || at(game.places, card) != IN_HAND || game.height >= PILE_ROOM) {
            return VOID;
        }
        return worthPlayed(card);
    }

    private int worthPlayed(int card) {
        thought.copyFrom(game);
        thought.playCard(card);
        rules.runPile(thought, unread);
        return thought.worthTo(at(cards.owners, card));
    }

    public int best(int player, int what) {
        if (!isPlayer(player) || what < 0 || what > 1) {
            return VOID;
        }
        thought.copyFrom(game);
        rules.runPile(thought, unread);
        int most = thought.worthTo(player);
        int by = NOT;
        for (int card = 0; card < game.cardCount && game.height < PILE_ROOM; card++) {
            if (at(cards.owners, card) != player || at(game.places, card) != IN_HAND) {
                continue;
            }
            int played = worthPlayed(card);
            if (played > most) {
                most = played;
                by = card;
            }
        }
        return what == 0 ? by : most;
    }

    public int byTurns(int n) {
        if (n < 1 || n > MOST_BY_TURNS) {
            return VOID;
        }
        thought.copyFrom(game);
        return outcome(thoughts, rules, unread, 0, n);
    }

    /**
     * What the ACTIVE PLAYER's WORTH comes to from the game in thought of this depth on, with 'left'
     * plays to come; at an even depth he is the one who plays.
     */
    private static int outcome(Game[] thoughts, Rules rules, Log unread, int depth, int left) {
        Game here = depth >= 0 && depth < thoughts.length ? thoughts[depth] : null;
        if (here == null) {
            return VOID;
        }
        Game then = left > 0 && depth + 1 < thoughts.length ? thoughts[depth + 1] : null;
        if (then == null) {
            return here.worthTo(here.active);
        }
        boolean wantsMost = depth % 2 == 0;
        int player = wantsMost ? here.active : 1 - here.active;
        int best = 0;
        for (int choice = 0; choice <= CHOICES; choice++) {
            int card = choice == 0 ? NOT : here.nthIn(player, IN_HAND, choice - 1);
            if (choice > 0 && (card < 0 || here.height >= PILE_ROOM)) {
                break;
            }
            then.copyFrom(here);
            if (choice > 0) {
                then.playCard(card);
            }
            rules.runPile(then, unread);
            int came = outcome(thoughts, rules, unread, depth + 1, left - 1);
            if (choice == 0 || (wantsMost ? came > best : came < best)) {
                best = came;
            }
        }
        return best;
    }

    public int matter() {
        thought.copyFrom(game);
        rules.runPile(thought, unread);
        int end = rules.end;
        int life0 = at(thought.lives, 0);
        int life1 = at(thought.lives, 1);
        int bits = 0;
        for (int card = 0; card < game.cardCount; card++) {
            if (at(game.places, card) != ON_TABLE) {
                continue;
            }
            runWithout(card);
            if (rules.end != end || at(thought.lives, 0) != life0 || at(thought.lives, 1) != life1) {
                bits |= 1 << card;
            }
        }
        return bits;
    }

    private void runWithout(int card) {
        thought.copyFrom(game);
        thought.takeOff(card);
        rules.runPile(thought, unread);
    }

    public int swing(int card) {
        if (!game.has(card) || at(game.places, card) != ON_TABLE) {
            return VOID;
        }
        int owner = at(cards.owners, card);
        thought.copyFrom(game);
        rules.runPile(thought, unread);
        int with = thought.worthTo(owner);
        runWithout(card);
        return with - thought.worthTo(owner);
    }

    public int next(int player) {
        if (!isPlayer(player)) {
            return BAD;
        }
        int n = game.countIn(player, IN_DECK);
        if (n <= 0) {
            return NOT;
        }
        return game.nthIn(player, IN_DECK, drawnBelow(n, seedAfter(game.seed)));
    }

    public int ahead(int n, int what) {
        if (n < 1 || n > MOST_AHEAD || what < 0 || what > 4) {
            return VOID;
        }
        thought.copyFrom(game);
        int turns = 0;
        while (turns < n && thought.isQuiet()) {
            rules.takeTurn(thought, unread);
            rules.runPile(thought, unread);
            turns++;
        }
        switch (what) {
            case 0:
                return turns;
            case 1:
                return at(thought.lives, 0);
            case 2:
                return at(thought.lives, 1);
            case 3:
                return thought.countIn(0, IN_HAND);
            default:
                return thought.countIn(1, IN_HAND);
        }
    }

    public int trace(int which, int i) {
        if (which < 0 || which > 1 || i < 0) {
            return BAD;
        }
        if (which == 0) {
            return i < log.thingCount ? at(log.things, i) : NOT;
        }
        return i < log.eventCount ? at(log.events, i) : NOT;
    }

    public int seed(int v) {
        int before = game.seed;
        game.seed = v;
        return before;
    }

    public int image() {
        image.copyFrom(game);
        hasImage = true;
        return game.cardCount;
    }

    public int back() {
        if (!hasImage) {
            return STATE;
        }
        game.copyFrom(image);
        for (int i = 0; i < handles.length; i++) {
            if (!game.has(handles[i])) {
                handles[i] = NOT;
            }
        }
        return game.cardCount;
    }

    // ---- handles

    public int hold(int handle, int card) {
        if (handle < 0 || handle >= HANDLE_ROOM || (card != -1 && !game.has(card))) {
            return BAD;
        }
        put(handles, handle, card);
        return 1;
    }

    public int tells(int handle, int family) {
        if (handle < 0 || handle >= HANDLE_ROOM || family < ANY || family > WATCHER) {
            return BAD;
        }
        int card = at(handles, handle);
        if (!game.has(card)) {
            return NOTHING_THERE;
        }
        int kind = at(cards.kinds, card);
        if (family == ANY) {
            return 100 + kind;
        }
        if (family != familyOf(kind)) {
            return OTHER_FAMILY;
        }
        int a = at(cards.as, card);
        switch (family) {
            case LAYER:
                return 100 + layered(kind, a, 10, 20);
            case REPLACER:
                return 100 + replacedAmount(kind, a, 10);
            case ANSWER:
                return 100 + a;
            default:
                return 100 + at(cards.vs, card) * 4 + at(cards.ws, card);
        }
    }

    public int count(int what) {
        switch (what) {
            case 0:
                return game.cardCount;
            case 1:
                return game.height;
            case 2:
                return game.laid;
            case 3:
                return game.countIn(0, GONE) + game.countIn(1, GONE);
            case 4:
                return tape.length;
            case 5:
                return game.clock;
            case 6:
                return game.turns;
            case 7:
                return game.active;
            case 8:
                return game.lostBits();
            default:
                return BAD;
        }
    }

    // ---- what all parts share

    private static int at(int[] row, int i) {
        return i >= 0 && i < row.length ? row[i] : 0;
    }

    private static void put(int[] row, int i, int n) {
        if (i >= 0 && i < row.length) {
            row[i] = n;
        }
    }

    private static void copyRow(int[] from, int[] to) {
        System.arraycopy(from, 0, to, 0, Math.min(from.length, to.length));
    }

    private static int within(int n, int least, int most) {
        if (n < least) {
            return least;
        }
        return n > most ? most : n;
    }

    private static boolean isPlayer(int player) {
        return player == 0 || player == 1;
    }

    private static boolean isPair(int vw) {
        return vw >= 0 && vw / 10 <= GREATEST_V && vw % 10 <= GREATEST_V;
    }

    private static int familyOf(int kind) {
        if (kind <= MORE) {
            return LAYER;
        }
        if (kind <= TURN) {
            return REPLACER;
        }
        return kind <= CLEAR ? ANSWER : WATCHER;
    }

    /** Whether a LAYER takes its VALUE w: only such a one DEPENDS. */
    private static boolean looksAtOther(int kind) {
        return kind == LIKE || kind == MORE;
    }

    /** What a LAYER makes of its VALUE v, 'own', with 'other' its VALUE w. */
    private static int layered(int kind, int a, int own, int other) {
        switch (kind) {
            case ADD:
                return within(own + a, -LIMIT, LIMIT);
            case TIMES:
                return within(own * a, -LIMIT, LIMIT);
            case SET:
                return a;
            case LIKE:
                return other;
            default:
                return within(own + other, -LIMIT, LIMIT);
        }
    }

    /** What a REPLACER makes of an AMOUNT, not held yet. */
    private static int replacedAmount(int kind, int a, int amount) {
        if (kind == TWICE) {
            return amount * 2;
        }
        return kind == LESS ? amount - a : amount;
    }

    /** How an EVENT is told. */
    private static int codeOf(int type, int player, int amount) {
        return PER_TYPE * type + PER_PLAYER * player + amount;
    }

    private static int seedAfter(int seed) {
        return seed * 1103515245 + 12345;
    }

    private static int drawnBelow(int n, int seed) {
        return n > 0 ? (seed >>> 16) % n : 0;
    }

    /** What each CARD is. An IMAGE needs none of it: no number's CARD changes while it is there. */
    private static final class Cards {
        private final int[] kinds = new int[CARD_ROOM];
        private final int[] owners = new int[CARD_ROOM];
        private final int[] vs = new int[CARD_ROOM];
        private final int[] ws = new int[CARD_ROOM];
        private final int[] as = new int[CARD_ROOM];

        private void write(int card, int kind, int owner, int vw, int a) {
            put(kinds, card, kind);
            put(owners, card, owner);
            put(vs, card, vw / 10);
            put(ws, card, vw % 10);
            put(as, card, a);
        }
    }

    /** All that an IMAGE keeps, and that a game in thought has for itself. */
    private static final class Game {
        private final Cards cards;
        private final int[] lives = {FIRST_LIFE, FIRST_LIFE};
        private final int[] bases = {1, 2, 1, 7};
        private final int[] places = new int[CARD_ROOM];
        private final int[] ages = new int[CARD_ROOM];
        /** The CARDS on the TABLE, the OLDEST first. */
        private final int[] table = new int[CARD_ROOM];
        /** The things on the PILE, the top last. */
        private final int[] pile = new int[PILE_ROOM];
        private int cardCount, laid, height, clock, active, turns;
        private int seed = 1;
        /** Counts the moves of CARDS, so that a RUN sees whether one has moved. */
        private int moves;

        private Game(Cards cards) {
            this.cards = cards;
        }

        private void copyFrom(Game other) {
            copyRow(other.lives, lives);
            copyRow(other.bases, bases);
            copyRow(other.places, places);
            copyRow(other.ages, ages);
            copyRow(other.table, table);
            copyRow(other.pile, pile);
            cardCount = other.cardCount;
            laid = other.laid;
            height = other.height;
            clock = other.clock;
            active = other.active;
            turns = other.turns;
            seed = other.seed;
            moves = other.moves;
        }

        private boolean has(int card) {
            return card >= 0 && card < cardCount;
        }

        private int addCard(int kind, int owner, int vw, int a) {
            int card = cardCount;
            cards.write(card, kind, owner, vw, a);
            put(places, card, IN_DECK);
            cardCount++;
            return card;
        }

        private void moveTo(int card, int place) {
            put(places, card, place);
            moves++;
        }

        private void playCard(int card) {
            if (push(card)) {
                moveTo(card, ON_PILE);
            }
        }

        private void layDown(int card) {
            put(table, laid, card);
            laid++;
            put(ages, card, clock);
            clock++;
            moveTo(card, ON_TABLE);
        }

        private void takeOff(int card) {
            int kept = 0;
            for (int i = 0; i < laid; i++) {
                int other = at(table, i);
                if (other != card) {
                    put(table, kept, other);
                    kept++;
                }
            }
            laid = kept;
            moveTo(card, GONE);
        }

        /** False, and the thing is lost, if the PILE has no room for it. */
        private boolean push(int thing) {
            if (height >= PILE_ROOM) {
                return false;
            }
            put(pile, height, thing);
            height++;
            return true;
        }

        private int pop() {
            if (height <= 0) {
                return NOT;
            }
            height--;
            return at(pile, height);
        }

        private int countIn(int player, int place) {
            int n = 0;
            for (int card = 0; card < cardCount; card++) {
                if (at(places, card) == place && at(cards.owners, card) == player) {
                    n++;
                }
            }
            return n;
        }

        /** The n-th, by numbers, of a PLAYER's CARDS in a place; NOT: there are not as many. */
        private int nthIn(int player, int place, int n) {
            int passed = 0;
            for (int card = 0; card < cardCount; card++) {
                if (at(places, card) == place && at(cards.owners, card) == player) {
                    if (passed == n) {
                        return card;
                    }
                    passed++;
                }
            }
            return NOT;
        }

        private void drawOne(int player) {
            int n = countIn(player, IN_DECK);
            if (n <= 0) {
                changeLife(player, -1);
                return;
            }
            seed = seedAfter(seed);
            moveTo(nthIn(player, IN_DECK, drawnBelow(n, seed)), IN_HAND);
        }

        private void changeLife(int player, int by) {
            put(lives, player, within(at(lives, player) + by, -LIMIT, LIMIT));
        }

        private int worthTo(int player) {
            return at(lives, player) - at(lives, 1 - player);
        }

        private int lostBits() {
            return (at(lives, 0) <= 0 ? 1 : 0) | (at(lives, 1) <= 0 ? 2 : 0);
        }

        /** Whether a TURN may be taken. */
        private boolean isQuiet() {
            return height == 0 && lostBits() == 0;
        }
    }

    /** Works out THE VALUES, and the order in which the LAYERS come to them. */
    private static final class Layering {
        private final Cards cards;
        private final int[] values = new int[VALUE_ROOM];
        private final int[] order = new int[CARD_ROOM];
        private int usedCount;
        /** The LAYERS not used yet, the OLDEST first, and how many of them each VALUE is the v of. */
        private final int[] open = new int[CARD_ROOM];
        private final int[] openOn = new int[VALUE_ROOM];
        private int openCount;

        private Layering(Cards cards) {
            this.cards = cards;
        }

        private void workOut(Game game) {
            copyRow(game.bases, values);
            gather(game);
            usedCount = 0;
            for (int n = openCount; n > 0; n--) {
                int layer = takeNext();
                put(order, usedCount, layer);
                usedCount++;
                use(layer);
            }
        }

        private void gather(Game game) {
            openCount = 0;
            for (int i = 0; i < openOn.length; i++) {
                openOn[i] = 0;
            }
            for (int i = 0; i < game.laid; i++) {
                int card = at(game.table, i);
                if (familyOf(at(cards.kinds, card)) == LAYER) {
                    put(open, openCount, card);
                    openCount++;
                    countOn(card, 1);
                }
            }
        }

        private void countOn(int layer, int by) {
            int value = at(cards.vs, layer);
            put(openOn, value, at(openOn, value) + by);
        }

        private int takeNext() {
            int place = 0;
            while (place < openCount && waits(at(open, place))) {
                place++;
            }
            if (place >= openCount) {
                place = 0;
            }
            int layer = at(open, place);
            for (int i = place + 1; i < openCount; i++) {
                put(open, i - 1, at(open, i));
            }
            openCount--;
            countOn(layer, -1);
            return layer;
        }

        /** Whether it DEPENDS on one not used yet; it does not DEPEND on itself. */
        private boolean waits(int layer) {
            if (!looksAtOther(at(cards.kinds, layer))) {
                return false;
            }
            int w = at(cards.ws, layer);
            int itself = at(cards.vs, layer) == w ? 1 : 0;
            return at(openOn, w) > itself;
        }

        private void use(int layer) {
            int v = at(cards.vs, layer);
            int own = at(values, v);
            int other = at(values, at(cards.ws, layer));
            put(values, v, layered(at(cards.kinds, layer), at(cards.as, layer), own, other));
        }
    }

    /** An EVENT, and the REPLACERS that were used on it. */
    private static final class Event {
        /** Ahead of the first CARD used and behind each, the TABLE is looked through once at most. */
        private static final int MOST_STEPS = (CARD_ROOM + 1) * CARD_ROOM;

        private final Cards cards;
        private int type, player, amount;
        private final int[] used = new int[CARD_ROOM];
        private int usedCount, usedBits;

        private Event(Cards cards) {
            this.cards = cards;
        }

        private void become(int newType, int newPlayer, int newAmount) {
            type = newType;
            player = newPlayer;
            amount = within(newAmount, 0, LIMIT);
            usedCount = 0;
            usedBits = 0;
        }

        private void becomeTold(int code) {
            become(code / PER_TYPE, code % PER_TYPE / PER_PLAYER, code % PER_PLAYER);
        }

        private int told() {
            return codeOf(type, player, amount);
        }

        private void replaceBy(Game game) {
            int i = 0;
            for (int step = 0; step < MOST_STEPS && i < game.laid; step++) {
                int card = at(game.table, i);
                if (fits(card)) {
                    use(card);
                    // what it has become may fit an OLDER one that it did not fit before
                    i = 0;
                } else {
                    i++;
                }
            }
        }

        private boolean fits(int card) {
            int kind = at(cards.kinds, card);
            if (familyOf(kind) != REPLACER || (usedBits >> card & 1) != 0 || at(cards.vs, card) != type) {
                return false;
            }
            return kind == TWICE || kind == TURN || at(cards.owners, card) == player;
        }

        private void use(int card) {
            put(used, usedCount, card);
            usedCount++;
            usedBits |= 1 << card;
            int kind = at(cards.kinds, card);
            amount = within(replacedAmount(kind, at(cards.as, card), amount), 0, LIMIT);
            if (kind == AWAY) {
                player = 1 - player;
            } else if (kind == TURN) {
                type = at(cards.ws, card) % TYPES;
            }
        }
    }

    /** THE TRACE, and what HAPPENED. */
    private static final class Log {
        private final int[] things = new int[LOG_ROOM];
        private final int[] events = new int[LOG_ROOM];
        private int thingCount, eventCount;

        private void empty() {
            thingCount = 0;
            eventCount = 0;
        }

        private void addThing(int thing) {
            if (thingCount < LOG_ROOM) {
                put(things, thingCount, thing);
                thingCount++;
            }
        }

        private void addEvent(int code) {
            if (eventCount < LOG_ROOM) {
                put(events, eventCount, code);
                eventCount++;
            }
        }
    }

    /**
     * How all was ahead of each time of a RUN. No CARD's move is ever undone in a RUN, and SEED
     * changes only as a CARD moves: so the count of moves stands for where all CARDS are, the order
     * of their AGES, and SEED.
     */
    private static final class Past {
        /** Four things of the PILE go into a long: none is above 16 bits. */
        private static final int LONGS = PILE_ROOM / 4;
        private final int[] moves = new int[RUN_LIMIT + 1];
        private final int[] lives0 = new int[RUN_LIMIT + 1];
        private final int[] lives1 = new int[RUN_LIMIT + 1];
        private final int[] heights = new int[RUN_LIMIT + 1];
        private final long[] piles = new long[(RUN_LIMIT + 1) * LONGS];

        private void keep(int time, Game game) {
            put(moves, time, game.moves);
            put(lives0, time, at(game.lives, 0));
            put(lives1, time, at(game.lives, 1));
            put(heights, time, game.height);
            for (int i = 0; i < game.height; i++) {
                int place = time * LONGS + i / 4;
                if (place >= 0 && place < piles.length) {
                    long below = i % 4 == 0 ? 0 : piles[place];
                    piles[place] = below << 16 | at(game.pile, i);
                }
            }
        }

        /** The earlier time ahead of which all was as it was ahead of this one, or NOT. */
        private int sameAs(int time) {
            for (int e = time - 1; e >= 0 && at(moves, e) == at(moves, time); e--) {
                if (at(lives0, e) == at(lives0, time) && at(lives1, e) == at(lives1, time)
                        && at(heights, e) == at(heights, time) && samePiles(e, time)) {
                    return e;
                }
            }
            return NOT;
        }

        private boolean samePiles(int one, int other) {
            int n = (at(heights, one) + 3) / 4;
            int from = one * LONGS;
            int to = other * LONGS;
            if (from < 0 || to < 0 || from + n > piles.length || to + n > piles.length) {
                return false;
            }
            for (int i = 0; i < n; i++) {
                if (piles[from + i] != piles[to + i]) {
                    return false;
                }
            }
            return true;
        }
    }

    /** Resolves, runs and takes TURNS, in deed or in thought: by the game that is given. */
    private static final class Rules {
        private final Cards cards;
        private final Layering layering;
        private final Event event;
        private final Past past = new Past();
        /** What the latest RUN, in deed or in thought, came to. */
        private int end, earlier, between, times;

        private Rules(Cards cards) {
            this.cards = cards;
            layering = new Layering(cards);
            event = new Event(cards);
        }

        private void runPile(Game game, Log log) {
            earlier = NOT;
            between = NOT;
            end = END_LIMIT;
            for (int time = 0; time <= RUN_LIMIT; time++) {
                times = time;
                if (hasEnded(game)) {
                    return;
                }
                resolveTop(game, log);
            }
        }

        private boolean hasEnded(Game game) {
            if (game.lostBits() != 0) {
                end = END_LOST;
                return true;
            }
            if (game.height == 0) {
                end = END_EMPTY;
                return true;
            }
            past.keep(times, game);
            earlier = past.sameAs(times);
            if (earlier >= 0) {
                end = END_LOOP;
                between = times - earlier;
                return true;
            }
            return times >= RUN_LIMIT;
        }

        private void resolveTop(Game game, Log log) {
            int thing = game.pop();
            if (thing < 0) {
                return;
            }
            log.addThing(thing);
            if (thing >= SHADOW) {
                event.becomeTold(thing - SHADOW);
                happen(game, log);
                return;
            }
            int kind = at(cards.kinds, thing);
            if (familyOf(kind) != ANSWER) {
                game.layDown(thing);
                return;
            }
            game.moveTo(thing, GONE);
            if (kind == STOP) {
                stopTop(game);
            } else if (kind == CLEAR) {
                clearYoungest(game, 1 - at(cards.owners, thing));
            } else {
                layering.workOut(game);
                begin(kind, at(cards.owners, thing), at(cards.as, thing));
                happen(game, log);
            }
        }

        private void stopTop(Game game) {
            int thing = game.pop();
            if (thing >= 0 && thing < SHADOW) {
                game.moveTo(thing, GONE);
            }
        }

        private void clearYoungest(Game game, int owner) {
            for (int i = game.laid - 1; i >= 0; i--) {
                int card = at(game.table, i);
                if (at(cards.owners, card) == owner) {
                    game.takeOff(card);
                    return;
                }
            }
        }

        private void begin(int kind, int owner, int a) {
            if (kind == STRIKE) {
                event.become(HIT, 1 - owner, at(layering.values, 1) + a);
            } else if (kind == HEAL) {
                event.become(MEND, owner, at(layering.values, 2) + a);
            } else if (kind == FETCH) {
                event.become(DRAW, owner, at(layering.values, 0) + a);
            }
        }

        private void happen(Game game, Log log) {
            event.replaceBy(game);
            log.addEvent(event.told());
            if (event.type == HIT) {
                game.changeLife(event.player, -event.amount);
            } else if (event.type == MEND) {
                game.changeLife(event.player, event.amount);
            } else {
                for (int i = 0; i < event.amount; i++) {
                    game.drawOne(event.player);
                }
            }
            if (event.amount >= 1) {
                castShadows(game);
            }
        }

        private void castShadows(Game game) {
            for (int i = 0; i < game.laid; i++) {
                int card = at(game.table, i);
                if (at(cards.kinds, card) != ECHO || at(cards.vs, card) != event.type) {
                    continue;
                }
                int a = at(cards.as, card);
                int owner = at(cards.owners, card);
                int player = (a & 1) == 1 ? owner : 1 - owner;
                game.push(SHADOW + codeOf(at(cards.ws, card) % TYPES, player, Math.max(0, a)));
            }
        }

        private void takeTurn(Game game, Log log) {
            int player = game.active;
            layering.workOut(game);
            // the DRAW moves nothing on the TABLE: THE VALUE 3 is behind it what it is now
            int most = Math.max(0, at(layering.values, 3));
            event.become(DRAW, player, at(layering.values, 0));
            happen(game, log);
            for (int n = game.countIn(player, IN_HAND); n > most; n--) {
                game.moveTo(game.nthIn(player, IN_HAND, n - 1), GONE);
            }
            game.active = 1 - player;
            game.turns++;
        }
    }

    /** THE TAPE, and the reader of its TEXT. */
    private static final class Tape {
        /** The KINDS' words in their order, each with blanks behind it up to WORD_ROOM. */
        private static final String WORDS =
                "add    times  set    like   more   twice  away   less   turn   strike heal   fetch  stop   clear  echo   ";
        private static final int WORD_ROOM = 7;
        /** A LINE has 11 bytes at least, and a ; behind all but the last. */
        private static final int LINE_ROOM = (TAPE_ROOM + 1) / 12;

        private final int[] bytes = new int[TAPE_ROOM];
        private int length;
        private int cursor;
        private final int[] kinds = new int[LINE_ROOM];
        private final int[] owners = new int[LINE_ROOM];
        private final int[] vws = new int[LINE_ROOM];
        private final int[] as = new int[LINE_ROOM];
        private int lines;

        private boolean append(int letter) {
            if (length >= TAPE_ROOM) {
                return false;
            }
            put(bytes, length, letter);
            length++;
            return true;
        }

        /** The FAULT, or NOT if there is none. The cursor stands where the reading can't go on. */
        private int readText() {
            cursor = 0;
            lines = 0;
            for (int n = 0; n < LINE_ROOM; n++) {
                if (!readLine()) {
                    return cursor;
                }
                if (cursor >= length) {
                    return NOT;
                }
                if (!skip(';')) {
                    return cursor;
                }
            }
            return cursor;
        }

        private boolean readLine() {
            int kind = readWord();
            if (kind < 0) {
                return false;
            }
            int owner = readDigit(1);
            if (owner < 0 || !skip(' ')) {
                return false;
            }
            int v = readDigit(GREATEST_V);
            if (v < 0 || !skip(' ')) {
                return false;
            }
            int w = readDigit(GREATEST_V);
            if (w < 0 || !skip(' ')) {
                return false;
            }
            boolean below = skip('-');
            int a = readDigit(GREATEST_A);
            if (a < 0) {
                return false;
            }
            put(kinds, lines, kind);
            put(owners, lines, owner);
            put(vws, lines, 10 * v + w);
            put(as, lines, below ? -a : a);
            lines++;
            return true;
        }

        /** The KIND whose word, and the blank behind it, stand at the cursor; BAD: none. */
        private int readWord() {
            int furthest = 0;
            for (int kind = 0; kind < KINDS; kind++) {
                int alike = lettersAlike(kind);
                if (alike > 0 && at(bytes, cursor + alike - 1) == ' ') {
                    cursor += alike;
                    return kind;
                }
                furthest = Math.max(furthest, alike);
            }
            cursor += furthest;
            return BAD;
        }

        /** How many bytes from the cursor on are as in a KIND's word and the one blank behind it. */
        private int lettersAlike(int kind) {
            int n = 0;
            while (n < WORD_ROOM && cursor + n < length) {
                int place = kind * WORD_ROOM + n;
                if (place < 0 || place >= WORDS.length() || WORDS.charAt(place) != at(bytes, cursor + n)) {
                    return n;
                }
                n++;
                if (WORDS.charAt(place) == ' ') {
                    return n;
                }
            }
            return n;
        }

        private int readDigit(int most) {
            int digit = cursor < length ? at(bytes, cursor) - '0' : BAD;
            if (digit < 0 || digit > most) {
                return BAD;
            }
            cursor++;
            return digit;
        }

        private boolean skip(int letter) {
            if (cursor >= length || at(bytes, cursor) != letter) {
                return false;
            }
            cursor++;
            return true;
        }
    }
}
