/** Promises 14 to 19: the PILE, RUNS and TURNS: each boundary has a test of its own. */
public final class EdgesOfPile {
    private static final Checks checks = new Checks("EdgesOfPile");
    private static final int SET = Games.SET, STRIKE = Games.STRIKE, HEAL = Games.HEAL, FETCH = Games.FETCH,
        STOP = Games.STOP, CLEAR = Games.CLEAR, ECHO = Games.ECHO;
    private static final int BAD = Games.BAD, NOT = Games.NOT, FULL = Games.FULL, STATE = Games.STATE,
        LOW = Games.LOW, HIGH = Games.HIGH;

    private static void due(String call, long got, long want) {
        checks.due(call, got, want);
    }

    /** 14: "how many things are on the PILE. BAD": no such CARD. */
    private static void playWhich() {
        LayeredCards x = Games.withCards(3);
        for (int n = 0; n < 3; n++) {
            x.deal(n);
        }
        int[] none = {-1, -2, 3, 24, 256, -256, LOW, HIGH};
        for (int n : none) {
            due("play(" + n + ")", x.play(n), BAD);
        }
        due("play(2)", x.play(2), 1);
        due("play(0)", x.play(0), 2);
        due("there are two", x.count(1), 2);
        LayeredCards full = Games.withCards(24);
        full.deal(23);
        due("play(23)", full.play(23), 1);
    }

    /** "STATE: it isn't in a HAND": each other place. */
    private static void playFromElsewhere() {
        int[] due = {STATE, 2, STATE, STATE, STATE};
        for (int place = 0; place < 5; place++) {
            LayeredCards x = Games.eachPlace(ECHO, 0);
            due("play from place " + place, x.play(place), due[place]);
            due("where it is then", x.of(place, 5), place == 1 ? 2 : place);
        }
    }

    /** "FULL: 64": with 63 there is room for one. */
    private static void roomOnThePile() {
        LayeredCards x = Games.with60And(3, STOP);
        due("63 things", x.count(1), 63);
        int last = Games.inHand(x, HEAL, 0, 0, 0);
        int more = Games.inHand(x, HEAL, 0, 0, 0);
        due("the 64th", x.play(last), 64);
        due("a 65th", x.play(more), FULL);
        due("it is in the hand", x.of(more, 5), 1);
        due("64 things", x.count(1), 64);
        due("on top is the last that came", x.pile(0), last);
        x.resolve();
        due("room again", x.play(more), 64);
    }

    /** "of several BAD ahead, then by a call's own line": STATE ahead of FULL. */
    private static void playWhenFull() {
        LayeredCards x = Games.with60And(4, STOP);
        int deck = x.card(HEAL, 0, 0, 0);
        due("in the deck", x.play(deck), STATE);
        due("on the pile", x.play(22), STATE);
        due("on the table", x.play(0), STATE);
        due("gone", x.play(15), STATE);
        due("none", x.play(24), BAD);
        due("none", x.play(-1), BAD);
        x.deal(deck);
        due("in the hand", x.play(deck), FULL);
    }

    /** It is PLAYED though somebody has LOST, by whomever: nothing rules that out. */
    private static void playWhenLost() {
        for (int player = 0; player < 2; player++) {
            LayeredCards x = new LayeredCards();
            x.mend(player, -5);
            due("play", x.play(Games.inHand(x, HEAL, player, 0, 0)), 1);
        }
    }

    /** 15: "BAD: i below 0; NOT: there are not as many." */
    private static void pileWhich() {
        LayeredCards x = new LayeredCards();
        due("pile(0) of none", x.pile(0), NOT);
        due("pile(-1) of none", x.pile(-1), BAD);
        for (int n = 0; n < 24; n++) {
            Games.onPile(x, STOP, 0, 0, 0);
            due("the top of " + (n + 1), x.pile(0), n);
            due("the bottom", x.pile(n), 0);
            due("one below it", x.pile(n + 1), NOT);
        }
        due("pile(-1)", x.pile(-1), BAD);
        due("pile(LOW)", x.pile(LOW), BAD);
        due("pile(HIGH)", x.pile(HIGH), NOT);
        LayeredCards full = Games.with60And(4, STOP);
        due("pile(63)", full.pile(63), 12100);
        due("pile(64)", full.pile(64), NOT);
        due("pile(65)", full.pile(65), NOT);
    }

    /** "of a SHADOW 10000 plus ..": the least, the greatest. */
    private static void shadowsAsTold() {
        int[][] rows = {{0, 0, 10100}, {0, -9, 10000}, {2, 9, 12009}, {2, 8, 12108}, {3, 9, 10009}};
        for (int[] row : rows) {
            LayeredCards x = new LayeredCards();
            Games.resolved(x, ECHO, 0, 10 + row[0], row[1]);
            Games.resolved(x, STRIKE, 1, 0, 0);
            due("the shadow by w " + row[0] + ", a " + row[1], x.pile(0), row[2]);
        }
    }

    /** 16: "STATE: it is empty." */
    private static void resolveNothing() {
        LayeredCards x = new LayeredCards();
        due("resolve", x.resolve(), STATE);
        Games.onPile(x, STOP, 0, 0, 0);
        due("the last one", x.resolve(), 0);
        due("resolve again", x.resolve(), STATE);
        due("what is told stays", x.trace(0, 0), 0);
    }

    /** The top "goes from there", of each KIND to its place: TABLE or GONE. */
    private static void whereKindsGo() {
        for (int kind = 0; kind < 15; kind++) {
            LayeredCards x = new LayeredCards();
            Games.onPile(x, ECHO, 0, 33, 0);
            int n = Games.onPile(x, kind, 0, 33, 0);
            due("resolve kind " + kind, x.resolve(), kind == STOP ? 0 : 1);
            due("place of kind " + kind, x.of(n, 5), kind < STRIKE || kind == ECHO ? 3 : 4);
            due("told", x.trace(0, 0), n);
            due("alone", x.trace(0, 1), NOT);
        }
    }

    /** resolve() takes the top though somebody has LOST. */
    private static void resolveWhenLost() {
        LayeredCards x = new LayeredCards();
        x.mend(0, 0);
        Games.onPile(x, HEAL, 0, 0, 1);
        due("resolve", x.resolve(), 0);
        due("healed", x.player(0, 0), 2);
    }

    /** "STRIKE: an EVENT HIT on the other PLAYER .. HEAL: MEND on its OWNER .. FETCH: DRAW on its OWNER". */
    private static void whomAnswersReach() {
        int[] kinds = {FETCH, STRIKE, HEAL};
        for (int type = 0; type < 3; type++) {
            for (int owner = 0; owner < 2; owner++) {
                LayeredCards x = new LayeredCards();
                x.base(0, 11);
                x.base(1, 12);
                x.base(2, 13);
                x.base(3, 14);
                Games.resolved(x, kinds[type], owner, 0, 1);
                int on = type == 1 ? 1 - owner : owner;
                due("event of kind " + kinds[type], x.trace(1, 0), 1000 * type + 100 * on + 12 + type);
            }
        }
    }

    /** "of THE VALUE 1 and a together": as LAYERED, not the BASE. */
    private static void answersByTheValue() {
        int[] kinds = {FETCH, STRIKE, HEAL};
        for (int value = 0; value < 3; value++) {
            LayeredCards x = new LayeredCards();
            Games.resolved(x, SET, 1, 10 * value, 5);
            Games.resolved(x, kinds[value], 0, 0, -3);
            due("amount by value " + value, x.trace(1, 0) % 100, 2);
        }
    }

    /** "STOP: what is on top of the PILE then goes from there (a CARD: GONE), if there is something." */
    private static void stopNothing() {
        LayeredCards x = new LayeredCards();
        int stop = Games.onPile(x, STOP, 0, 0, 0);
        due("resolve", x.resolve(), 0);
        due("the stop is gone", x.of(stop, 5), 4);
        due("gone in all", x.count(3), 1);
    }

    private static void stopOneCard() {
        LayeredCards x = new LayeredCards();
        int below = Games.onPile(x, ECHO, 1, 0, 0);
        int stopped = Games.onPile(x, ECHO, 1, 0, 0);
        Games.onPile(x, STOP, 0, 0, 0);
        due("resolve", x.resolve(), 1);
        due("the one below it is gone", x.of(stopped, 5), 4);
        due("it never had an age", x.count(5), 0);
        due("the next one stays", x.of(below, 5), 2);
        due("it is the top", x.pile(0), below);
    }

    private static void stopAShadow() {
        LayeredCards x = new LayeredCards();
        Games.resolved(x, ECHO, 0, 11, 2);
        Games.resolved(x, STRIKE, 0, 0, 0);
        due("a shadow", x.pile(0), 11102);
        int gone = x.count(3);
        Games.onPile(x, STOP, 1, 0, 0);
        due("resolve", x.resolve(), 0);
        due("it did not happen", x.player(1, 0), 18);
        due("the stop alone is gone", x.count(3), gone + 1);
    }

    /** The SHADOW of the least number, 10000, is no CARD: a STOP takes it off, nothing is GONE by it. */
    private static void stopTheLeastShadow() {
        LayeredCards x = new LayeredCards();
        int echo = Games.resolved(x, ECHO, 1, 10, 0);
        Games.resolved(x, STRIKE, 0, 0, 0);
        due("the least", x.pile(0), 10000);
        Games.onPile(x, STOP, 0, 0, 0);
        due("run", x.run(), 1);
        due("nothing is left", x.count(1), 0);
        due("the strike and the stop are gone", x.count(3), 2);
        due("the echo stays", x.of(echo, 5), 3);
    }

    /** A STOP stops a STOP: what was below both is resolved. */
    private static void stopAStop() {
        LayeredCards x = new LayeredCards();
        Games.onPile(x, HEAL, 0, 0, 1);
        Games.onPile(x, STOP, 1, 0, 0);
        Games.onPile(x, STOP, 0, 0, 0);
        due("run", x.run(), 2);
        due("the heal happened", x.player(0, 0), 22);
    }

    /** "CLEAR: of the CARDS on the TABLE that aren't its OWNER's the YOUNGEST is GONE, if there is one." */
    private static void clearNothing() {
        LayeredCards x = new LayeredCards();
        int own = Games.resolved(x, ECHO, 0, 33, 0);
        int deck = x.card(ECHO, 1, 33, 0);
        int hand = Games.inHand(x, ECHO, 1, 33, 0);
        int pile = Games.onPile(x, ECHO, 1, 33, 0);
        Games.resolved(x, CLEAR, 0, 0, 0);
        due("his own stays", x.of(own, 5), 3);
        due("in the deck", x.of(deck, 5), 0);
        due("in the hand", x.of(hand, 5), 1);
        due("on the pile", x.of(pile, 5), 2);
        due("the clear alone is gone", x.count(3), 1);
    }

    private static void clearTheYoungest() {
        for (int owner = 0; owner < 2; owner++) {
            LayeredCards x = new LayeredCards();
            int late = x.card(ECHO, 1 - owner, 33, 0);
            int first = Games.resolved(x, SET, 1 - owner, 33, 0);
            x.deal(late);
            x.play(late);
            x.resolve();
            int own = Games.resolved(x, Games.TWICE, owner, 33, 0);
            Games.resolved(x, CLEAR, owner, 0, 0);
            due("the youngest of the other one's", x.of(late, 5), 4);
            due("one alone", x.count(2), 2);
            Games.resolved(x, CLEAR, owner, 0, 0);
            due("then the next", x.of(first, 5), 4);
            Games.resolved(x, CLEAR, owner, 0, 0);
            due("his own stays", x.of(own, 5), 3);
            due("its age", x.of(own, 6), 2);
        }
    }

    /** "LOST has who has LIFE 0 or less": 1 is not lost, 0 is. */
    private static void lost() {
        for (int player = 0; player < 2; player++) {
            for (int life = -2; life <= 2; life++) {
                LayeredCards x = new LayeredCards();
                x.mend(player, life);
                boolean lost = life <= 0;
                due("who has lost", x.count(8), lost ? 1 << player : 0);
                Games.onPile(x, STOP, 0, 0, 0);
                due("run at life " + life, x.run(), lost ? 0 : 1);
                due("ended", x.ended(0), lost ? 1 : 0);
                due("things left", x.count(1), lost ? 1 : 0);
            }
        }
    }

    /** The first that has LOST ends a RUN; the rest stays on the PILE. */
    private static void lostOnTheWay() {
        for (int amount = 19; amount <= 21; amount++) {
            LayeredCards x = new LayeredCards();
            x.base(1, amount);
            Games.onPile(x, STOP, 0, 0, 0);
            Games.onPile(x, STRIKE, 0, 0, 0);
            boolean lost = amount >= 20;
            due("run by a hit of " + amount, x.run(), lost ? 1 : 2);
            due("ended", x.ended(0), lost ? 1 : 0);
            due("things left", x.count(1), lost ? 1 : 0);
            due("told", x.trace(0, 1), lost ? NOT : 0);
        }
    }

    /** 17: "how many were RESOLVED": none of an empty PILE. */
    private static void runOf() {
        for (int n = 0; n <= 3; n++) {
            LayeredCards x = new LayeredCards();
            for (int i = 0; i < n; i++) {
                Games.onPile(x, SET, 0, 0, 0);
            }
            due("run of " + n, x.run(), n);
            due("nothing is left", x.count(1), 0);
            due("ended", x.ended(0), 0);
        }
    }

    /** "It looks for 1 ahead of 0": who has LOST by the last thing. */
    private static void lostAndEmpty() {
        LayeredCards x = new LayeredCards();
        x.mend(1, 2);
        Games.onPile(x, STRIKE, 0, 0, 0);
        due("run", x.run(), 1);
        due("ended", x.ended(0), 1);
        due("the pile is empty", x.count(1), 0);
        due("a run of nothing, lost", x.run(), 0);
        due("ended", x.ended(0), 1);
    }

    /** It looks for 1 ahead of 2: a HIT of a ring that would be as before, but LIFE was 0 at first. */
    private static void lostAheadOfALoop() {
        LayeredCards x = new LayeredCards();
        Games.resolved(x, ECHO, 0, 22, 1);
        Games.onPile(x, HEAL, 0, 0, 0);
        x.mend(0, 97);
        x.mend(1, 0);
        due("run", x.run(), 0);
        due("ended", x.ended(0), 1);
        x.mend(1, 1);
        due("run", x.run(), 3);
        due("ended", x.ended(0), 2);
    }

    /** 18: "(what 0; 0, too: there was none), of a LOOP the earlier one (1), how many lie between (2; 1, 2: NOT)". */
    private static void endedWhat() {
        LayeredCards x = new LayeredCards();
        int[] first = {BAD, BAD, 0, NOT, NOT, BAD, BAD};
        for (int what = -2; what <= 4; what++) {
            due("ended(" + what + ") of none", x.ended(what), first[what + 2]);
        }
        LayeredCards y = Games.looping();
        y.run();
        int[] loop = {BAD, BAD, 2, 1, 2, BAD, BAD};
        for (int what = -2; what <= 4; what++) {
            due("ended(" + what + ") of a loop", y.ended(what), loop[what + 2]);
        }
        due("ended(LOW)", y.ended(LOW), BAD);
        due("ended(HIGH)", y.ended(HIGH), BAD);
        y.mend(0, 0);
        y.run();
        int[] lost = {1, NOT, NOT};
        for (int what = 0; what < 3; what++) {
            due("ended(" + what + ") behind one that lost", y.ended(what), lost[what]);
        }
    }

    /** "the latest RUN in deed (by run())": not by resolve(), not in thought, not ahead. */
    private static void endedInDeed() {
        LayeredCards x = Games.looping();
        x.dry(0);
        x.matter();
        x.byTurns(2);
        x.ahead(3, 0);
        x.best(0, 0);
        x.swing(0);
        x.worth(Games.inHand(x, HEAL, 0, 0, 0));
        x.resolve();
        due("no run in deed", x.ended(0), 0);
        due("no loop", x.ended(1), NOT);
        x.run();
        due("a loop", x.ended(0), 2);
        due("from the first", x.ended(1), 0);
        x.mend(1, 0);
        x.dry(0);
        x.resolve();
        due("the loop still", x.ended(0), 2);
        due("from the first", x.ended(1), 0);
        due("two between", x.ended(2), 2);
    }

    /** A LOOP is "as it was ahead of an earlier one of this RUN": of another RUN it is not. */
    private static void loopOfThisRun() {
        LayeredCards x = Games.looping();
        x.resolve();
        due("run", x.run(), 2);
        due("again as long", x.run(), 2);
        due("from the first", x.ended(1), 0);
        x.resolve();
        due("from the other one", x.run(), 2);
        due("from the first", x.ended(1), 0);
        due("two between", x.ended(2), 2);
    }

    /** "LIVES": a ring is no LOOP as long as one LIFE changes, of whichever PLAYER. */
    private static void loopByLives() {
        for (int player = 0; player < 2; player++) {
            LayeredCards x = new LayeredCards();
            Games.resolved(x, ECHO, player, 22, 1);
            Games.onPile(x, HEAL, player, 0, 0);
            x.mend(player, 90);
            due("mends of 1 from 90 to 99", x.run(), 10);
            due("ended", x.ended(0), 2);
            due("the earlier one", x.ended(1), 9);
            due("between", x.ended(2), 1);
        }
    }

    /** "where all CARDS are", "SEED": a ring of DRAWS is no LOOP as long as a CARD comes. */
    private static void loopByCards() {
        LayeredCards x = new LayeredCards();
        Games.resolved(x, ECHO, 0, 1, 0);
        Games.resolved(x, ECHO, 0, 0, 1);
        for (int i = 0; i < 5; i++) {
            x.card(HEAL, 0, 0, 0);
        }
        Games.onPile(x, FETCH, 0, 0, 0);
        x.mend(0, 2);
        // each DRAW calls a HIT of 0 and, on top of it, a DRAW
        due("five drawn, then two lives", x.run(), 7);
        due("ended", x.ended(0), 1);
        due("in the hand", x.player(0, 2), 5);
        due("the hits of 0 are left, and a draw", x.count(1), 8);
    }

    /** "the PILE": a ring is no LOOP as long as something more is on it. */
    private static void loopByThePile() {
        LayeredCards x = new LayeredCards();
        Games.resolved(x, ECHO, 0, 21, 0);
        Games.resolved(x, ECHO, 0, 22, 1);
        Games.onPile(x, HEAL, 0, 0, 0);
        x.mend(0, 99);
        // each MEND calls a HIT of 0 and, on top of it, a MEND; with 63 below it there is no room for the MEND
        due("64 mends, then 64 hits of 0", x.run(), 128);
        due("ended", x.ended(0), 0);
        due("no loop", x.ended(1), NOT);
        due("nothing is left", x.count(1), 0);
    }

    private static void turnRefused(String why, LayeredCards x, boolean refused) {
        int turns = x.count(6);
        due("turn, " + why, x.turn(), refused ? STATE : 1);
        due("turns, " + why, x.count(6), refused ? turns : turns + 1);
        due("active, " + why, x.count(7), refused ? 0 : 1);
    }

    /** 19: "STATE: the PILE isn't empty, or somebody has LOST." */
    private static void turnWhen() {
        LayeredCards x = new LayeredCards();
        Games.onPile(x, STOP, 0, 0, 0);
        turnRefused("one on the pile", x, true);
        x.resolve();
        turnRefused("none on it", x, false);
        for (int player = 0; player < 2; player++) {
            for (int life = -1; life <= 1; life++) {
                LayeredCards y = new LayeredCards();
                y.mend(player, life);
                turnRefused(player + " has " + life, y, life <= 0);
            }
        }
    }

    /** "as long as his HAND has more CARDS than THE VALUE 3 (0, if that is below 0)". */
    private static void handLimits() {
        for (int most = -3; most <= 6; most++) {
            LayeredCards x = new LayeredCards();
            for (int i = 0; i < 4; i++) {
                Games.inHand(x, HEAL, 0, 0, 0);
            }
            x.base(0, 0);
            x.base(3, most);
            x.turn();
            int kept = Math.max(0, Math.min(4, most));
            due("in the hand by value " + most, x.player(0, 2), kept);
            due("gone", x.player(0, 4), 4 - kept);
            for (int n = 0; n < 4; n++) {
                due("where " + n + " is", x.of(n, 5), n < kept ? 1 : 4);
            }
        }
    }

    private static void handLimitIsLayered() {
        LayeredCards x = new LayeredCards();
        Games.resolved(x, SET, 0, 30, 1);
        Games.inHand(x, HEAL, 0, 0, 0);
        Games.inHand(x, HEAL, 0, 0, 0);
        x.base(0, 0);
        x.turn();
        due("in the hand", x.player(0, 2), 1);
        LayeredCards y = new LayeredCards();
        y.base(3, 0);
        Games.resolved(y, Games.ADD, 0, 30, -9);
        Games.inHand(y, HEAL, 0, 0, 0);
        y.base(0, 0);
        y.turn();
        due("in the hand by -9", y.player(0, 2), 0);
    }

    /** What is drawn counts, and goes if its number is the greatest. */
    private static void drawnAndGone() {
        LayeredCards x = new LayeredCards();
        Games.inHand(x, HEAL, 0, 0, 0);
        int drawn = x.card(HEAL, 0, 0, 0);
        x.base(3, 1);
        x.turn();
        due("it was drawn and is gone", x.of(drawn, 5), 4);
        due("a drawn below 1", x.seed(1), 1103527590);
        LayeredCards y = new LayeredCards();
        int low = y.card(HEAL, 0, 0, 0);
        int high = Games.inHand(y, HEAL, 0, 0, 0);
        y.base(3, 1);
        y.turn();
        due("it was drawn and stays", y.of(low, 5), 1);
        due("the greatest is gone", y.of(high, 5), 4);
    }

    /** "an EVENT DRAW on him of THE VALUE 0": held within 0 .. 99. */
    private static void turnDraws() {
        int[][] rows = {{-99, 20}, {-1, 20}, {0, 20}, {1, 19}, {2, 18}, {99, -79}};
        for (int[] row : rows) {
            LayeredCards x = new LayeredCards();
            x.base(0, row[0]);
            due("turn", x.turn(), 1);
            due("life behind a draw of " + row[0], x.player(0, 0), row[1]);
            due("the other one's", x.player(1, 0), 20);
        }
        LayeredCards y = new LayeredCards();
        y.base(0, 0);
        Games.resolved(y, SET, 1, 0, 2);
        y.turn();
        due("layered", y.player(0, 0), 18);
    }

    /** "then the other one is ACTIVE; TURNS is 1 more": it answers who is ACTIVE then. */
    private static void turnsAndActive() {
        LayeredCards x = new LayeredCards();
        x.base(0, 0);
        for (int n = 1; n <= 40; n++) {
            due("turn " + n, x.turn(), n % 2);
            due("active", x.count(7), n % 2);
            due("turns", x.count(6), n);
        }
    }

    /** "An object is used for at most 512 calls": the 512th is answered as the first. */
    private static void callsOfAnObject() {
        LayeredCards x = new LayeredCards();
        x.base(0, 0);
        for (int n = 1; n <= 510; n++) {
            due("turn " + n, x.turn(), n % 2);
        }
        due("turns", x.count(6), 510);
        LayeredCards y = Games.looping();
        for (int n = 12; n <= 511; n++) {
            due("run", y.run(), n == 12 ? 3 : 2);
        }
        due("the earlier one", y.ended(1), 0);
    }

    /** A TURN is no RUN and no resolve(): what they told stays. */
    private static void turnTellsNothing() {
        LayeredCards x = Games.looping();
        x.run();
        int stop = Games.resolved(x, STOP, 0, 0, 0);
        due("turn", x.turn(), 1);
        due("trace", x.trace(0, 0), stop);
        due("no event", x.trace(1, 0), NOT);
        due("ended", x.ended(0), 2);
        due("the earlier one", x.ended(1), 1);
        due("between", x.ended(2), 2);
    }

    /** Who has LOST by his DRAW: the TURN goes on to its end. */
    private static void turnThatLoses() {
        LayeredCards x = new LayeredCards();
        x.mend(0, 1);
        Games.inHand(x, HEAL, 0, 0, 0);
        x.base(3, 0);
        due("turn", x.turn(), 1);
        due("lost", x.count(8), 1);
        due("his hand", x.player(0, 2), 0);
        due("turns", x.count(6), 1);
        due("no more", x.turn(), STATE);
    }

    /** The HAND of the ACTIVE PLAYER is held, whomever the EVENT came to. */
    private static void turnDrawsAway() {
        LayeredCards x = new LayeredCards();
        Games.resolved(x, Games.AWAY, 0, 0, 0);
        x.card(HEAL, 1, 0, 0);
        Games.inHand(x, HEAL, 1, 0, 0);
        int his = Games.inHand(x, HEAL, 0, 0, 0);
        x.base(3, 0);
        x.turn();
        due("the other one drew", x.player(1, 2), 2);
        due("his own hand is held", x.of(his, 5), 4);
        due("his life", x.player(0, 0), 20);
    }

    /** A SHADOW of the DRAW lies on the PILE then: no RUN is part of a TURN. */
    private static void turnWithAnEcho() {
        LayeredCards x = new LayeredCards();
        Games.resolved(x, ECHO, 0, 1, 1);
        due("turn", x.turn(), 1);
        due("a shadow", x.pile(0), 11001);
        due("the draw alone", x.player(0, 0), 19);
        due("no run in deed", x.run(), 1);
        due("then the hit", x.player(0, 0), 18);
    }

    public static void main(String[] args) {
        playWhich();
        playFromElsewhere();
        roomOnThePile();
        playWhenFull();
        playWhenLost();
        pileWhich();
        shadowsAsTold();
        resolveNothing();
        whereKindsGo();
        resolveWhenLost();
        whomAnswersReach();
        answersByTheValue();
        stopNothing();
        stopOneCard();
        stopAShadow();
        stopTheLeastShadow();
        stopAStop();
        clearNothing();
        clearTheYoungest();
        lost();
        lostOnTheWay();
        runOf();
        lostAndEmpty();
        lostAheadOfALoop();
        endedWhat();
        endedInDeed();
        loopOfThisRun();
        loopByLives();
        loopByCards();
        loopByThePile();
        turnWhen();
        handLimits();
        handLimitIsLayered();
        drawnAndGone();
        turnDraws();
        turnsAndActive();
        callsOfAnObject();
        turnTellsNothing();
        turnThatLoses();
        turnDrawsAway();
        turnWithAnEcho();
        checks.close();
    }
}
