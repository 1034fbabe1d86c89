/** Games for the tests, and the KINDS by their names. */
final class Games {
    static final int ADD = 0, TIMES = 1, SET = 2, LIKE = 3, MORE = 4, TWICE = 5, AWAY = 6, LESS = 7, TURN = 8,
        STRIKE = 9, HEAL = 10, FETCH = 11, STOP = 12, CLEAR = 13, ECHO = 14;
    static final int BAD = -1, NOT = -2, FULL = -3, STATE = -5, VOID = -2000000000;
    static final int LOW = Integer.MIN_VALUE, HIGH = Integer.MAX_VALUE;

    private Games() {
    }

    static int inHand(LayeredCards x, int kind, int owner, int vw, int a) {
        int n = x.card(kind, owner, vw, a);
        x.deal(n);
        return n;
    }

    static int onPile(LayeredCards x, int kind, int owner, int vw, int a) {
        int n = inHand(x, kind, owner, vw, a);
        x.play(n);
        return n;
    }

    /** A CARD that was RESOLVED: a LAYER, a REPLACER, a WATCHER is on the TABLE, an ANSWER has acted. */
    static int resolved(LayeredCards x, int kind, int owner, int vw, int a) {
        int n = onPile(x, kind, owner, vw, a);
        x.resolve();
        return n;
    }

    static void feedText(LayeredCards x, String text) {
        for (int i = 0; i < text.length(); i++) {
            x.feed(text.charAt(i));
        }
    }

    static int deckOf(LayeredCards x, String text) {
        feedText(x, text);
        return x.deck();
    }

    static void lives(LayeredCards x, int life0, int life1) {
        x.mend(0, life0);
        x.mend(1, life1);
    }

    /** Two ECHOES call for one another without end: HIT 1 on 0, MEND 1 on 0; a STRIKE of 5 begins it. */
    static LayeredCards looping() {
        LayeredCards x = new LayeredCards();
        resolved(x, ECHO, 0, 12, 1);
        resolved(x, ECHO, 0, 21, 1);
        onPile(x, STRIKE, 1, 0, 3);
        return x;
    }

    /** Each HIT on 1 brings two: the PILE grows to 64 things, and stays so till somebody has LOST. */
    static LayeredCards withFullPile() {
        LayeredCards x = new LayeredCards();
        lives(x, 99, 99);
        resolved(x, ECHO, 0, 11, 2);
        resolved(x, ECHO, 0, 11, 2);
        onPile(x, STRIKE, 0, 0, 0);
        for (int i = 0; i < 64; i++) {
            lives(x, 99, 99);
            x.resolve();
        }
        lives(x, 99, 99);
        return x;
    }
}
