/** Promises 14 to 19: the pile. */
public final class PileTests {
    private static final Checks checks = new Checks("PileTests");
    private static final int STRIKE = Games.STRIKE, HEAL = Games.HEAL, FETCH = Games.FETCH, STOP = Games.STOP,
        CLEAR = Games.CLEAR, ECHO = Games.ECHO;
    private static final int BAD = Games.BAD, NOT = Games.NOT, FULL = Games.FULL, STATE = Games.STATE,
        LOW = Games.LOW, HIGH = Games.HIGH;

    private static void due(String call, long got, long want) {
        checks.due(call, got, want);
    }

    private static void play() {
        LayeredCards x = new LayeredCards();
        int n = x.card(HEAL, 1, 0, 1);
        due("play from the deck", x.play(n), STATE);
        x.deal(n);
        due("play", x.play(n), 1);
        due("it is on the pile", x.of(n, 5), 2);
        due("play again", x.play(n), STATE);
        due("play another one", x.play(Games.inHand(x, STRIKE, 0, 0, 1)), 2);
        x.run();
        due("play from gone", x.play(n), STATE);
        due("play from the table", x.play(Games.resolved(x, ECHO, 0, 0, 0)), STATE);
        int[] wrong = {-1, 24, x.count(0), LOW, HIGH};
        for (int w : wrong) {
            due("play(" + w + ")", x.play(w), BAD);
        }
        LayeredCards y = Games.withFullPile();
        due("a full pile", y.count(1), 64);
        int left = y.card(HEAL, 0, 0, 0);
        due("play, in the deck ahead of full", y.play(left), STATE);
        due("play, bad ahead of full", y.play(24), BAD);
        y.deal(left);
        due("play full", y.play(left), FULL);
        due("it stays in the hand", y.of(left, 5), 1);
        due("still 64", y.count(1), 64);
        LayeredCards z = new LayeredCards();
        z.mend(0, 0);
        due("play though somebody has lost", z.play(Games.inHand(z, STRIKE, 0, 0, 1)), 1);
    }

    private static void pile() {
        LayeredCards x = new LayeredCards();
        Games.resolved(x, ECHO, 0, 12, 7);
        Games.resolved(x, ECHO, 0, 13, 4);
        Games.resolved(x, ECHO, 1, 11, 3);
        Games.resolved(x, ECHO, 1, 12, -3);
        int first = Games.onPile(x, HEAL, 0, 0, 0);
        int second = Games.onPile(x, STRIKE, 0, 0, 0);
        due("the top", x.pile(0), second);
        due("below it", x.pile(1), first);
        due("no more", x.pile(2), NOT);
        due("resolve", x.resolve(), 5);
        // the youngest ECHO's is on top; a below 0 is 0, but odd
        int[] row = {12100, 11103, 10104, 12007, first};
        for (int i = 0; i < row.length; i++) {
            due("pile(" + i + ")", x.pile(i), row[i]);
        }
        due("pile(5)", x.pile(5), NOT);
        due("pile(64)", x.pile(64), NOT);
        due("pile(HIGH)", x.pile(HIGH), NOT);
        due("pile(-1)", x.pile(-1), BAD);
        due("pile(LOW)", x.pile(LOW), BAD);
    }

    private static void shadowsRoom() {
        LayeredCards x = Games.withFullPile();
        due("64 are on it", x.count(1), 64);
        due("the last one", x.pile(63), 11102);
        due("no 65th", x.pile(64), NOT);
        due("one goes, one of two comes", x.resolve(), 64);
        due("it was resolved", x.trace(0, 0), 11102);
        LayeredCards y = new LayeredCards();
        int echo = Games.resolved(y, ECHO, 1, 20, 2);
        due("an event of 0 calls none", y.count(1), 0);
        Games.resolved(y, HEAL, 0, 0, -1);
        due("a mend of 0 calls none", y.count(1), 0);
        due("it is told all the same", y.trace(1, 0), 2000);
        Games.resolved(y, HEAL, 0, 0, 0);
        due("a mend of 1 does", y.pile(0), 10002);
        due("the echo is there", y.of(echo, 5), 3);
        LayeredCards least = new LayeredCards();
        Games.resolved(least, ECHO, 1, 20, -2);
        Games.resolved(least, HEAL, 0, 0, 0);
        due("the shadow of least number", least.pile(0), 10000);
        due("resolve it", least.resolve(), 0);
        due("it is told", least.trace(0, 0), 10000);
        due("it happens", least.trace(1, 0), 0);
        due("nothing comes to the table", least.count(2), 1);
        LayeredCards z = new LayeredCards();
        Games.resolved(z, ECHO, 0, 32, 1);
        Games.resolved(z, STRIKE, 0, 0, 0);
        Games.resolved(z, HEAL, 0, 0, 0);
        due("v 3 hears none", z.count(1), 0);
    }

    private static void strikeAndHeal() {
        LayeredCards x = new LayeredCards();
        int n = Games.onPile(x, STRIKE, 0, 0, 5);
        due("resolve", x.resolve(), 0);
        due("strike: 2 and 5", x.player(1, 0), 13);
        due("strike: the other one only", x.player(0, 0), 20);
        due("it is gone", x.of(n, 5), 4);
        Games.resolved(x, STRIKE, 1, 0, -9);
        due("strike: 0 at least", x.player(0, 0), 20);
        due("told as 0", x.trace(1, 0), 1000);
        Games.resolved(x, HEAL, 1, 0, 3);
        due("heal: 1 and 3", x.player(1, 0), 17);
        x.mend(0, 98);
        Games.resolved(x, HEAL, 0, 0, 9);
        due("heal: 99 at most", x.player(0, 0), 99);
        x.base(1, 99);
        Games.resolved(x, STRIKE, 0, 0, 9);
        due("strike: 99 at most", x.player(1, 0), -82);
        Games.resolved(x, STRIKE, 0, 0, 9);
        due("life: -99 at least", x.player(1, 0), -99);
        Games.resolved(x, Games.SET, 0, 10, 1);
        Games.resolved(x, Games.SET, 0, 20, 2);
        Games.resolved(x, STRIKE, 1, 33, 1);
        due("strike by the layered value", x.player(0, 0), 97);
        Games.resolved(x, HEAL, 0, 33, -1);
        due("heal by the layered value", x.player(0, 0), 98);
        Games.resolved(x, Games.TWICE, 0, 20, 0);
        Games.resolved(x, Games.TURN, 0, 21, 0);
        Games.resolved(x, HEAL, 0, 0, 0);
        due("replaced ahead of it", x.player(0, 0), 94);
        due("told replaced", x.trace(1, 0), 1004);
    }

    private static void fetch() {
        LayeredCards x = new LayeredCards();
        for (int i = 0; i < 3; i++) {
            x.card(HEAL, 0, 0, i);
        }
        x.card(HEAL, 1, 0, 0);
        // SEED is 1103527590: 16838, 2 below 3; then 2524885223 without sign: 38526, 0 below 2
        Games.resolved(x, FETCH, 0, 0, 1);
        due("two came", x.player(0, 2), 2);
        due("first 2", x.of(2, 5), 1);
        due("then 0", x.of(0, 5), 1);
        due("not 1", x.of(1, 5), 0);
        due("not the other one's", x.of(3, 5), 0);
        Games.resolved(x, FETCH, 0, 0, 3);
        due("the last came", x.of(1, 5), 1);
        due("none: life is less", x.player(0, 0), 17);
        due("three seeds", x.seed(1), 662824084);
        x.mend(0, -98);
        Games.resolved(x, FETCH, 0, 0, 8);
        due("none: -99 at least", x.player(0, 0), -99);
        due("no seed for none", x.seed(1), 1);
        Games.resolved(x, FETCH, 1, 0, -1);
        due("fetch 0", x.player(1, 2), 0);
        due("the fetch is gone, too", x.count(3), 4);
    }

    private static void stop() {
        LayeredCards x = new LayeredCards();
        int below = Games.onPile(x, HEAL, 0, 0, 4);
        int stopped = Games.onPile(x, STRIKE, 0, 0, 4);
        int stop = Games.onPile(x, STOP, 0, 0, 4);
        due("stop", x.resolve(), 1);
        due("stopped: gone", x.of(stopped, 5), 4);
        due("stop: gone", x.of(stop, 5), 4);
        due("below stays", x.pile(0), below);
        due("nothing has happened", x.player(1, 0), 20);
        due("resolved is the stop", x.trace(0, 0), stop);
        due("not what it stops", x.trace(0, 1), NOT);
        x.run();
        int alone = Games.onPile(x, STOP, 1, 0, 0);
        due("stop nothing", x.resolve(), 0);
        due("it is gone all the same", x.of(alone, 5), 4);
        Games.resolved(x, ECHO, 0, 22, 1);
        Games.resolved(x, HEAL, 0, 0, 0);
        due("a shadow", x.pile(0), 12001);
        Games.onPile(x, STOP, 0, 0, 0);
        due("stop a shadow", x.resolve(), 0);
        LayeredCards y = new LayeredCards();
        int first = Games.onPile(y, HEAL, 0, 0, 0);
        Games.onPile(y, STOP, 0, 0, 0);
        y.run();
        due("the first card is stopped", y.of(first, 5), 4);
        due("and told by none", y.trace(0, 1), NOT);
    }

    private static void clear() {
        LayeredCards x = new LayeredCards();
        Games.resolved(x, CLEAR, 0, 0, 0);
        due("clear nothing", x.count(2), 0);
        int young = x.card(ECHO, 1, 33, 0);
        int old = Games.resolved(x, ECHO, 1, 33, 0);
        x.deal(young);
        x.play(young);
        x.resolve();
        int own = Games.resolved(x, ECHO, 0, 33, 0);
        due("three on the table", x.count(2), 3);
        Games.resolved(x, CLEAR, 0, 0, 0);
        due("the youngest, not the greatest number", x.of(young, 5), 4);
        due("the older one stays", x.of(old, 5), 3);
        due("its owner's own stays", x.of(own, 5), 3);
        Games.resolved(x, CLEAR, 0, 0, 0);
        due("then the older one", x.of(old, 5), 4);
        Games.resolved(x, CLEAR, 0, 0, 0);
        due("none of the other one's", x.of(own, 5), 3);
        due("clock", x.count(5), 3);
    }

    private static void resolve() {
        LayeredCards x = new LayeredCards();
        due("resolve nothing", x.resolve(), STATE);
        int n = Games.onPile(x, Games.AWAY, 1, 10, 0);
        int m = Games.onPile(x, Games.SET, 1, 10, 3);
        due("resolve the last first", x.resolve(), 1);
        due("it is on the table", x.of(m, 5), 3);
        due("its age", x.of(m, 6), 0);
        due("resolve the other one", x.resolve(), 0);
        due("its age", x.of(n, 6), 1);
        due("clock", x.count(5), 2);
        due("ended: no run", x.ended(0), 0);
        Games.onPile(x, Games.STRIKE, 0, 0, 0);
        Games.lives(x, 0, 0);
        due("resolve though all have lost", x.resolve(), 0);
        due("it hit", x.player(0, 0), -3);
        LayeredCards y = Games.looping();
        due("a strike's shadow", y.resolve(), 1);
        due("the shadow", y.pile(0), 12001);
        due("a shadow's shadow", y.resolve(), 1);
        due("that shadow", y.pile(0), 11001);
        due("it happened", y.player(0, 0), 16);
    }

    private static void run() {
        LayeredCards x = new LayeredCards();
        due("run of nothing", x.run(), 0);
        Games.onPile(x, Games.SET, 0, 10, 9);
        Games.onPile(x, STRIKE, 0, 0, 0);
        Games.onPile(x, STRIKE, 1, 0, 0);
        due("run", x.run(), 3);
        due("ended: empty", x.ended(0), 0);
        due("ended: no loop", x.ended(1), NOT);
        due("ended: no loop", x.ended(2), NOT);
        due("ahead of the set", x.player(1, 0), 18);
        Games.onPile(x, STRIKE, 0, 0, 0);
        Games.onPile(x, HEAL, 0, 0, 0);
        Games.onPile(x, STRIKE, 0, 0, 9);
        x.mend(1, 18);
        due("run till lost", x.run(), 1);
        due("ended: lost", x.ended(0), 1);
        due("the rest is on the pile", x.count(1), 2);
        due("who has lost", x.count(8), 2);
        due("run: has lost", x.run(), 0);
        due("ended: lost at once", x.ended(0), 1);
        due("nothing is told of it", x.trace(0, 0), NOT);
        LayeredCards y = new LayeredCards();
        y.mend(1, 2);
        Games.onPile(y, STRIKE, 0, 0, 0);
        due("run: lost and empty", y.run(), 1);
        due("lost is looked for ahead of empty", y.ended(0), 1);
        y.mend(1, 1);
        due("run of nothing", y.run(), 0);
        due("ended: empty", y.ended(0), 0);
        int[] wrong = {-1, 3, LOW, HIGH};
        for (int w : wrong) {
            due("ended(" + w + ")", y.ended(w), BAD);
        }
    }

    private static void ended(LayeredCards x, String what, int times, int end, int earlier, int between) {
        due(what + ": dry", x.dry(0), end);
        due(what + ": run", x.run(), times);
        due(what + ": ended", x.ended(0), end);
        due(what + ": the earlier one", x.ended(1), earlier);
        due(what + ": between", x.ended(2), between);
    }

    private static void loop() {
        LayeredCards x = Games.looping();
        ended(x, "loop behind a strike", 3, 2, 1, 2);
        ended(x, "loop from the first", 2, 2, 0, 2);
        x.resolve();
        due("ended is of run() alone", x.ended(0), 2);
        x.resolve();
        x.mend(0, 99);
        ended(x, "life held at 99: then 99, 98, 99", 3, 2, 1, 2);
        x.mend(0, 1);
        due("a hit is next", x.pile(0), 11001);
        ended(x, "lost is looked for first", 1, 1, NOT, NOT);
        x.mend(0, 20);
        ended(x, "loop again", 2, 2, 0, 2);
        x.mend(1, -5);
        ended(x, "lost at once", 0, 1, NOT, NOT);
    }

    private static void nearLoop() {
        LayeredCards x = new LayeredCards();
        Games.resolved(x, ECHO, 0, 22, 1);
        Games.onPile(x, HEAL, 0, 0, 0);
        x.mend(0, 97);
        ended(x, "mends at 98, 99, 99", 3, 2, 2, 1);
        ended(x, "mends at 99 from the first", 1, 2, 0, 1);
    }

    private static void noLoops() {
        LayeredCards x = new LayeredCards();
        // HIT 1 and MEND 1 on 0 by turns, and each time a DRAW of nothing on 1
        Games.resolved(x, ECHO, 0, 12, 1);
        Games.resolved(x, ECHO, 0, 21, 1);
        Games.resolved(x, ECHO, 1, 10, 1);
        Games.onPile(x, STRIKE, 1, 0, 3);
        ended(x, "the other life falls", 59, 1, NOT, NOT);
        LayeredCards y = new LayeredCards();
        Games.lives(y, 99, 99);
        Games.resolved(y, ECHO, 0, 12, 1);
        Games.resolved(y, ECHO, 0, 12, 1);
        Games.resolved(y, ECHO, 0, 21, 1);
        Games.onPile(y, STRIKE, 1, 0, -1);
        ended(y, "the pile grows till it is full", 127, 2, 125, 2);
        LayeredCards z = new LayeredCards();
        Games.resolved(z, ECHO, 0, 12, 1);
        Games.resolved(z, ECHO, 0, 21, 1);
        Games.resolved(z, ECHO, 1, 10, 1);
        for (int i = 0; i < 3; i++) {
            z.card(HEAL, 1, 0, 0);
        }
        z.mend(1, 2);
        Games.onPile(z, STRIKE, 1, 0, 3);
        ended(z, "draws, then none are left", 3 * 4 + 2, 1, NOT, NOT);
        due("all were drawn", z.player(1, 2), 3);
        LayeredCards lost = Games.withFullPile();
        ended(lost, "each hit brings a hit", 50, 1, NOT, NOT);
    }

    /** A ring that mends by 1 in two steps till LIFE is held at 99; so many LAYERS are ahead of it. */
    private static LayeredCards mendingRing(int ahead) {
        LayeredCards x = new LayeredCards();
        Games.resolved(x, ECHO, 1, 12, 2);
        Games.resolved(x, ECHO, 0, 21, 1);
        Games.onPile(x, STRIKE, 1, 0, -1);
        for (int i = 0; i < ahead; i++) {
            Games.onPile(x, Games.ADD, 0, 33, 0);
        }
        x.mend(0, 2);
        return x;
    }

    private static LayeredCards fallingRing(int ahead) {
        LayeredCards x = new LayeredCards();
        Games.resolved(x, ECHO, 0, 12, 1);
        Games.resolved(x, ECHO, 1, 21, 2);
        Games.onPile(x, STRIKE, 1, 0, 0);
        for (int i = 0; i < ahead; i++) {
            Games.onPile(x, Games.ADD, 0, 33, 0);
        }
        x.mend(0, 99);
        return x;
    }

    /** Three FETCHES of 65 things each: a DRAW, 8 MENDS of it, 7 HITS of 0 of each. */
    private static LayeredCards longPile(int ahead) {
        LayeredCards x = new LayeredCards();
        for (int i = 0; i < 8; i++) {
            Games.resolved(x, ECHO, 0, 2, 1);
        }
        for (int i = 0; i < 7; i++) {
            Games.resolved(x, ECHO, 0, 21, 0);
        }
        for (int i = 0; i < 3; i++) {
            Games.onPile(x, FETCH, 0, 0, 0);
        }
        for (int i = 0; i < ahead; i++) {
            Games.onPile(x, Games.ADD, 0, 33, 0);
        }
        return x;
    }

    private static void atTheLimit() {
        ended(mendingRing(3), "a loop at 199", 199, 2, 197, 2);
        ended(mendingRing(4), "a loop behind the last", 200, 2, 198, 2);
        ended(mendingRing(5), "no loop yet", 200, 3, NOT, NOT);
        ended(fallingRing(4), "lost at 199", 199, 1, NOT, NOT);
        ended(fallingRing(5), "lost behind the last", 200, 1, NOT, NOT);
        ended(fallingRing(6), "not lost yet", 200, 3, NOT, NOT);
        ended(longPile(4), "empty at 199", 199, 0, NOT, NOT);
        ended(longPile(5), "empty behind the last", 200, 0, NOT, NOT);
        LayeredCards x = longPile(6);
        ended(x, "not empty yet", 200, 3, NOT, NOT);
        due("one is left", x.count(1), 1);
        ended(x, "it goes on", 1, 0, NOT, NOT);
    }

    private static void turn() {
        LayeredCards x = new LayeredCards();
        due("turn", x.turn(), 1);
        due("no cards: life is less", x.player(0, 0), 19);
        due("the other one's isn't", x.player(1, 0), 20);
        due("turns", x.count(6), 1);
        due("turn of the other one", x.turn(), 0);
        due("his life", x.player(1, 0), 19);
        due("a turn tells no events", x.trace(1, 0), NOT);
        Games.onPile(x, HEAL, 0, 0, 0);
        due("turn with a pile", x.turn(), STATE);
        x.run();
        due("told by the run", x.trace(1, 0), 2001);
        x.mend(1, 0);
        due("turn when lost", x.turn(), STATE);
        due("still active", x.count(7), 0);
        due("turns are two", x.count(6), 2);
        x.mend(1, 20);
        due("turn again", x.turn(), 1);
        due("the run's are told still", x.trace(1, 0), 2001);
        x.base(0, -5);
        due("draw below 0 is 0", x.turn(), 0);
        due("life stays", x.player(1, 0), 20);
    }

    private static void handLimit() {
        LayeredCards x = new LayeredCards();
        for (int i = 0; i < 6; i++) {
            Games.inHand(x, HEAL, 0, 0, 0);
        }
        Games.inHand(x, HEAL, 1, 0, 0);
        x.card(HEAL, 0, 0, 0);
        x.base(3, 4);
        due("turn", x.turn(), 1);
        due("four in the hand", x.player(0, 2), 4);
        due("the greatest went", x.of(7, 5), 4);
        due("and the next", x.of(5, 5), 4);
        due("and the next", x.of(4, 5), 4);
        due("the fourth stays", x.of(3, 5), 1);
        due("the other one's stays", x.of(6, 5), 1);
        x.base(3, 0);
        x.turn();
        due("his turn: his hand", x.player(1, 2), 0);
        due("not the other one's", x.player(0, 2), 4);
        x.base(3, -1);
        x.turn();
        due("below 0 is 0", x.player(0, 2), 0);
        LayeredCards y = new LayeredCards();
        Games.resolved(y, Games.SET, 0, 30, 1);
        Games.resolved(y, Games.SET, 0, 0, 2);
        y.card(HEAL, 0, 0, 0);
        y.card(HEAL, 0, 0, 0);
        y.card(HEAL, 0, 0, 0);
        y.turn();
        due("layered: two drawn, one kept", y.player(0, 2), 1);
        due("one gone", y.count(3), 1);
        due("one in the deck", y.player(0, 1), 1);
    }

    private static void turnIsAnEvent() {
        LayeredCards x = new LayeredCards();
        Games.resolved(x, Games.AWAY, 0, 0, 0);
        Games.resolved(x, ECHO, 1, 2, 5);
        due("turn", x.turn(), 1);
        due("away: the other one draws", x.player(1, 0), 19);
        due("he doesn't", x.player(0, 0), 20);
        due("a shadow comes", x.pile(0), 12105);
        due("turn with a shadow", x.turn(), STATE);
        due("run", x.run(), 1);
        due("it mends", x.player(1, 0), 24);
        Games.resolved(x, Games.TURN, 0, 1, 0);
        due("turn", x.turn(), 0);
        due("a draw turned to a hit", x.player(1, 0), 23);
        due("no draw: no shadow", x.count(1), 0);
    }

    public static void main(String[] args) {
        play();
        pile();
        shadowsRoom();
        strikeAndHeal();
        fetch();
        stop();
        clear();
        resolve();
        run();
        loop();
        nearLoop();
        noLoops();
        atTheLimit();
        turn();
        handLimit();
        turnIsAnEvent();
        checks.close();
    }
}
