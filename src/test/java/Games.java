/** Games for the tests, and the KINDS by their names. */
final class Games {
    static final int ADD = 0, TIMES = 1, SET = 2, LIKE = 3, MORE = 4, TWICE = 5, AWAY = 6, LESS = 7, TURN = 8,
        STRIKE = 9, HEAL = 10, FETCH = 11, STOP = 12, CLEAR = 13, ECHO = 14;
    static final int BAD = -1, NOT = -2, FULL = -3, STATE = -5, VOID = -2000000000;
    static final int LOW = Integer.MIN_VALUE, HIGH = Integer.MAX_VALUE;

    private Games() {
    }

    static int inHand(LayeredCards x, int kind, int owner, int vw, int a) {
        int n = x.card(kind, owner, vw, a);
        x.deal(n);
        return n;
    }

    static int onPile(LayeredCards x, int kind, int owner, int vw, int a) {
        int n = inHand(x, kind, owner, vw, a);
        x.play(n);
        return n;
    }

    /** A CARD that was RESOLVED: a LAYER, a REPLACER, a WATCHER is on the TABLE, an ANSWER has acted. */
    static int resolved(LayeredCards x, int kind, int owner, int vw, int a) {
        int n = onPile(x, kind, owner, vw, a);
        x.resolve();
        return n;
    }

    static void feedText(LayeredCards x, String text) {
        for (int i = 0; i < text.length(); i++) {
            x.feed(text.charAt(i));
        }
    }

    static int deckOf(LayeredCards x, String text) {
        feedText(x, text);
        return x.deck();
    }

    static void lives(LayeredCards x, int life0, int life1) {
        x.mend(0, life0);
        x.mend(1, life1);
    }

    /** Two ECHOES call for one another without end: HIT 1 on 0, MEND 1 on 0; a STRIKE of 5 begins it. */
    static LayeredCards looping() {
        LayeredCards x = new LayeredCards();
        resolved(x, ECHO, 0, 12, 1);
        resolved(x, ECHO, 0, 21, 1);
        onPile(x, STRIKE, 1, 0, 3);
        return x;
    }

    /** Each HIT on 1 brings two: the PILE grows to 64 things, and stays so till somebody has LOST. */
    static LayeredCards withFullPile() {
        LayeredCards x = new LayeredCards();
        lives(x, 99, 99);
        resolved(x, ECHO, 0, 11, 2);
        resolved(x, ECHO, 0, 11, 2);
        onPile(x, STRIKE, 0, 0, 0);
        for (int i = 0; i < 64; i++) {
            lives(x, 99, 99);
            x.resolve();
        }
        lives(x, 99, 99);
        return x;
    }

    /** Something of all there is: CARDS in each place, a PILE, a LOOP that was run, an IMAGE, HANDLES, a TEXT. */
    static LayeredCards rich() {
        LayeredCards x = new LayeredCards();
        resolved(x, ADD, 0, 10, 1);
        resolved(x, MORE, 1, 20, 0);
        resolved(x, LESS, 1, 20, -1);
        resolved(x, ECHO, 0, 12, 1);
        resolved(x, ECHO, 0, 21, 1);
        x.card(HEAL, 0, 0, 3);
        x.card(STRIKE, 0, 12, 2);
        x.card(HEAL, 1, 33, -9);
        x.hold(0, 3);
        x.image();
        x.turn();
        inHand(x, FETCH, 1, 0, 0);
        inHand(x, CLEAR, 0, 0, 0);
        onPile(x, STRIKE, 1, 0, 3);
        x.run();
        onPile(x, SET, 1, 30, 4);
        x.hold(3, RICH_ON_PILE);
        x.hold(7, RICH_IN_DECK);
        x.base(0, 3);
        x.mend(1, 25);
        feedText(x, "heal 1 2 3 -4");
        return x;
    }

    /** The CARDS of rich(): one of each place, and how many there are. */
    static final int RICH_ON_TABLE = 0, RICH_IN_HAND = 5, RICH_IN_DECK = 6, RICH_GONE = 10, RICH_ON_PILE = 11,
        RICH_CARDS = 12;

    /** 60 SHADOWS, MENDS of 0 on player 1, on the PILE: 19 CARDS are used for them, five may come. */
    static LayeredCards with60() {
        LayeredCards x = new LayeredCards();
        for (int i = 0; i < 15; i++) {
            resolved(x, ECHO, 0, 12, 0);
        }
        x.base(1, 1);
        for (int i = 0; i < 4; i++) {
            resolved(x, STRIKE, 0, 0, 0);
        }
        lives(x, 20, 20);
        return x;
    }

    /** The 60 of with60(), and so many CARDS of one KIND, played by player 0, on top of them. */
    static LayeredCards with60And(int more, int kind) {
        LayeredCards x = with60();
        for (int i = 0; i < more; i++) {
            onPile(x, kind, 0, 33, 0);
        }
        return x;
    }

    static LayeredCards withCards(int n) {
        LayeredCards x = new LayeredCards();
        for (int i = 0; i < n; i++) {
            x.card(HEAL, i % 2, 10, 1);
        }
        return x;
    }

    static LayeredCards withBytes(int n) {
        LayeredCards x = new LayeredCards();
        for (int i = 0; i < n; i++) {
            x.feed('a');
        }
        return x;
    }

    /** A new object with a CARD of each place: DECK, HAND, PILE, TABLE, GONE are its numbers 0 to 4. */
    static LayeredCards eachPlace(int kind, int owner) {
        LayeredCards x = new LayeredCards();
        for (int i = 0; i < 5; i++) {
            x.card(i == 4 ? STOP : kind, owner, 0, 0);
        }
        for (int i = 1; i < 5; i++) {
            x.deal(i);
        }
        x.play(3);
        x.resolve();
        x.play(4);
        x.resolve();
        x.play(2);
        return x;
    }
}
