/** Promises 20 to 28: in thought, THE TRACE: each boundary has a test of its own. */
public final class EdgesOfThought {
    private static final Checks checks = new Checks("EdgesOfThought");
    private static final int SET = Games.SET, LESS = Games.LESS, STRIKE = Games.STRIKE, HEAL = Games.HEAL,
        FETCH = Games.FETCH, STOP = Games.STOP, ECHO = Games.ECHO;
    private static final int BAD = Games.BAD, NOT = Games.NOT, STATE = Games.STATE, VOID = Games.VOID, LOW = Games.LOW,
        HIGH = Games.HIGH;

    private static void due(String call, long got, long want) {
        checks.due(call, got, want);
    }

    /** 20: "how it ends (what 0), how many are RESOLVED (1), LIFE of PLAYER 0 (2), 1 (3). VOID: BAD." */
    private static void dryWhat() {
        LayeredCards x = new LayeredCards();
        Games.onPile(x, STRIKE, 1, 0, 1);
        Games.onPile(x, HEAL, 1, 0, 4);
        int[] due = {VOID, VOID, 0, 2, 17, 25, VOID, VOID};
        for (int what = -2; what <= 5; what++) {
            due("dry(" + what + ")", x.dry(what), due[what + 2]);
        }
        int[] far = {LOW, HIGH, 256, -256};
        for (int what : far) {
            due("dry(" + what + ")", x.dry(what), VOID);
        }
    }

    /** A RUN of an empty PILE, and one when somebody has LOST: nothing is RESOLVED. */
    private static void dryOfNothing() {
        LayeredCards x = new LayeredCards();
        due("ends", x.dry(0), 0);
        due("times", x.dry(1), 0);
        x.mend(0, 0);
        due("ends, lost", x.dry(0), 1);
        due("times", x.dry(1), 0);
        due("life", x.dry(2), 0);
    }

    /** What a RUN comes to is what it comes to in deed. */
    private static void dryThenRun() {
        LayeredCards[] games = {new LayeredCards(), Games.rich(), Games.looping(), Games.withFullPile(), Games.with60()};
        for (LayeredCards x : games) {
            int end = x.dry(0);
            int times = x.dry(1);
            int life0 = x.dry(2);
            int life1 = x.dry(3);
            due("run", x.run(), times);
            due("ended", x.ended(0), end);
            due("life of 0", x.player(0, 0), life0);
            due("life of 1", x.player(1, 0), life1);
        }
    }

    /** 21: "VOID: BAD, it isn't in a HAND": no such CARD, each other place. */
    private static void worthOfWhich() {
        int[] due = {VOID, 1, VOID, VOID, VOID};
        for (int place = 0; place < 5; place++) {
            LayeredCards x = Games.eachPlace(ECHO, 0);
            x.mend(1, 19);
            due("worth in place " + place, x.worth(place), due[place]);
        }
        LayeredCards x = Games.withCards(3);
        x.deal(2);
        int[] none = {-1, -2, 3, 24, 256, LOW, HIGH};
        for (int n : none) {
            due("worth(" + n + ")", x.worth(n), VOID);
        }
        due("worth(2)", x.worth(2), 2);
    }

    /** "the PILE has 64": with 63 it is asked. */
    private static void worthOnAFullPile() {
        LayeredCards x = Games.with60And(3, SET);
        int heal = Games.inHand(x, HEAL, 0, 0, 6);
        due("63 things", x.count(1), 63);
        due("worth", x.worth(heal), 7);
        due("best", x.best(0, 0), heal);
        due("its worth", x.best(0, 1), 7);
        due("by turns", x.byTurns(1), 7);
        Games.onPile(x, SET, 0, 33, 0);
        due("64 things", x.count(1), 64);
        due("worth", x.worth(heal), VOID);
        due("best", x.best(0, 0), NOT);
        due("worth without", x.best(0, 1), 0);
        due("by turns", x.byTurns(1), 0);
    }

    /** "WORTH of its OWNER": his LIFE less the other one's, from -198 to 198. */
    private static void worthOfWhom() {
        int[][] rows = {{20, 20}, {99, 1}, {1, 99}, {99, -99}, {-99, 99}, {0, 0}};
        for (int[] row : rows) {
            LayeredCards x = new LayeredCards();
            Games.lives(x, row[0], row[1]);
            due("worth of 0", x.worth(Games.inHand(x, ECHO, 0, 33, 0)), row[0] - row[1]);
            due("worth of 1", x.worth(Games.inHand(x, ECHO, 1, 33, 0)), row[1] - row[0]);
            due("best of 0", x.best(0, 1), row[0] - row[1]);
            due("best of 1", x.best(1, 1), row[1] - row[0]);
            due("by turns", x.byTurns(1), row[0] - row[1]);
        }
    }

    /** "(the PILE as it is)": the CARD comes on top, and all below it is run. */
    private static void worthOnTop() {
        LayeredCards x = new LayeredCards();
        Games.onPile(x, STRIKE, 1, 0, 3);
        int set = Games.inHand(x, SET, 0, 10, 0);
        int stop = Games.inHand(x, STOP, 0, 0, 0);
        due("worth without", x.best(1, 1), 5);
        due("worth of a set: 0 and 3", x.worth(set), -3);
        due("worth of a stop", x.worth(stop), 0);
        due("best", x.best(0, 0), stop);
    }

    /** 22: "the CARD (what 0; NOT), that WORTH (1; ..). VOID: BAD." */
    private static void bestWhat() {
        LayeredCards x = new LayeredCards();
        int heal = Games.inHand(x, HEAL, 1, 0, 0);
        int[] due = {VOID, VOID, heal, 1, VOID, VOID};
        for (int what = -2; what <= 3; what++) {
            due("best(1, " + what + ")", x.best(1, what), due[what + 2]);
            due("best(-1, " + what + ")", x.best(-1, what), VOID);
            due("best(2, " + what + ")", x.best(2, what), VOID);
        }
        due("best(0, 0)", x.best(0, 0), NOT);
        due("best(LOW, 0)", x.best(LOW, 0), VOID);
        due("best(HIGH, 0)", x.best(HIGH, 0), VOID);
        due("best(0, LOW)", x.best(0, LOW), VOID);
        due("best(0, HIGH)", x.best(0, HIGH), VOID);
    }

    /** "if more than a RUN without it": one less, alike, one more. */
    private static void bestIfMore() {
        LayeredCards less = new LayeredCards();
        Games.inHand(less, FETCH, 0, 0, 0);
        due("worth of a draw of none", less.worth(0), -1);
        due("one less", less.best(0, 0), NOT);
        due("worth without", less.best(0, 1), 0);
        LayeredCards alike = new LayeredCards();
        Games.inHand(alike, STRIKE, 0, 0, -2);
        due("alike", alike.best(0, 0), NOT);
        due("worth without", alike.best(0, 1), 0);
        LayeredCards more = new LayeredCards();
        Games.inHand(more, STRIKE, 0, 0, -1);
        due("one more", more.best(0, 0), 0);
        due("worth with it", more.best(0, 1), 1);
    }

    /** It is more than a RUN without it, not than what is now. */
    private static void bestMoreThanARun() {
        LayeredCards x = new LayeredCards();
        Games.onPile(x, STRIKE, 0, 0, 3);
        Games.inHand(x, ECHO, 0, 33, 0);
        due("no better than a run", x.best(0, 0), NOT);
        due("worth behind a run", x.best(0, 1), 5);
        LayeredCards y = new LayeredCards();
        Games.onPile(y, STRIKE, 1, 0, 3);
        int heal = Games.inHand(y, HEAL, 0, 0, 0);
        due("better than a run, worse than now", y.best(0, 0), heal);
        due("its worth", y.best(0, 1), -4);
    }

    /** "(of like ones the least)": the least number, in whatever order they came to the HAND. */
    private static void bestOfLikeOnes() {
        LayeredCards x = new LayeredCards();
        for (int i = 0; i < 4; i++) {
            x.card(HEAL, 0, 0, i == 0 ? 1 : 5);
        }
        for (int i = 3; i >= 0; i--) {
            x.deal(i);
        }
        due("the least of three", x.best(0, 0), 1);
        due("their worth", x.best(0, 1), 6);
    }

    /** "of the CARDS in his HAND": the last of 24, none that is elsewhere, none of the other PLAYER. */
    private static void bestOfAll() {
        LayeredCards x = new LayeredCards();
        for (int i = 0; i < 24; i++) {
            Games.inHand(x, HEAL, 1, 0, i == 23 ? 9 : i % 9);
        }
        due("the last", x.best(1, 0), 23);
        due("its worth", x.best(1, 1), 10);
        due("not of the other one", x.best(0, 0), NOT);
        due("his worth", x.best(0, 1), 0);
        LayeredCards y = Games.eachPlace(HEAL, 0);
        due("the one in the hand", y.best(0, 0), 1);
    }

    /** 23: "n (1 .. 3)". "VOID: BAD." */
    private static void byTurnsHowMany() {
        LayeredCards x = new LayeredCards();
        Games.inHand(x, HEAL, 0, 0, 2);
        Games.inHand(x, HEAL, 0, 0, 1);
        Games.inHand(x, HEAL, 1, 0, 0);
        int[] due = {VOID, VOID, VOID, 3, 2, 4, VOID, VOID};
        for (int n = -2; n <= 5; n++) {
            due("byTurns(" + n + ")", x.byTurns(n), due[n + 2]);
        }
        due("byTurns(LOW)", x.byTurns(LOW), VOID);
        due("byTurns(HIGH)", x.byTurns(HIGH), VOID);
        due("byTurns(257)", x.byTurns(257), VOID);
    }

    /** "one of the first three CARDS in his HAND, by numbers": not the fourth, of the one nor of the other. */
    private static void byTurnsOfThree() {
        LayeredCards x = new LayeredCards();
        for (int i = 0; i < 4; i++) {
            x.card(HEAL, 0, 0, i + 1);
        }
        x.deal(3);
        due("one in the hand", x.byTurns(1), 5);
        x.deal(1);
        x.deal(0);
        due("three in the hand", x.byTurns(1), 5);
        x.deal(2);
        due("four in the hand", x.byTurns(1), 4);
        due("the fourth is the third, then", x.byTurns(3), 4 + 5);
        LayeredCards y = new LayeredCards();
        for (int i = 0; i < 3; i++) {
            Games.inHand(y, HEAL, 1, 0, i);
        }
        due("the other one's third", y.byTurns(2), -3);
        Games.inHand(y, HEAL, 1, 0, 9);
        due("not his fourth", y.byTurns(2), -3);
    }

    /** "or none (a RUN, too, then)". */
    private static void byTurnsNone() {
        LayeredCards x = new LayeredCards();
        Games.inHand(x, FETCH, 0, 0, 0);
        Games.inHand(x, FETCH, 1, 0, 0);
        due("none by the one", x.byTurns(1), 0);
        due("none by the other", x.byTurns(2), 0);
        due("none by any", x.byTurns(3), 0);
        LayeredCards y = new LayeredCards();
        Games.onPile(y, STRIKE, 0, 0, 0);
        due("a run with no hand", y.byTurns(1), 2);
        Games.inHand(y, STOP, 0, 0, 0);
        due("a run is better than a stop", y.byTurns(1), 2);
        Games.inHand(y, STOP, 1, 0, 0);
        due("the stop comes too late", y.byTurns(2), 2);
    }

    /** A CARD that was played is in no HAND; one that was fetched is. */
    private static void byTurnsHands() {
        LayeredCards x = new LayeredCards();
        Games.inHand(x, HEAL, 0, 0, 4);
        due("played once", x.byTurns(3), 5);
        LayeredCards y = new LayeredCards();
        y.card(HEAL, 0, 0, 9);
        Games.inHand(y, FETCH, 0, 0, 0);
        due("one: nothing", y.byTurns(1), 0);
        due("two: nothing", y.byTurns(2), 0);
        due("three: fetched, then healed", y.byTurns(3), 10);
    }

    /** "the ACTIVE PLAYER first": his WORTH is told. */
    private static void byTurnsOfTheActive() {
        LayeredCards x = new LayeredCards();
        x.base(0, 0);
        Games.inHand(x, HEAL, 0, 0, 2);
        Games.inHand(x, HEAL, 1, 0, 5);
        due("0 is active", x.byTurns(1), 3);
        due("0, then 1", x.byTurns(2), -3);
        x.turn();
        due("1 is active", x.byTurns(1), 6);
        due("1, then 0", x.byTurns(2), 3);
        x.mend(0, 30);
        due("his worth", x.byTurns(1), -4);
    }

    /** 24: "MATTER (bits)": CARD 0 is bit 0, CARD 23 is bit 23. */
    private static void matterBits() {
        for (int n = 0; n < 23; n++) {
            LayeredCards x = Games.withCards(n);
            int add = Games.resolved(x, Games.ADD, 0, 10, 3);
            due("matter of nothing", x.matter(), 0);
            Games.onPile(x, STRIKE, 0, 0, 0);
            due("matter of card " + add, x.matter(), 1 << n);
        }
        LayeredCards x = Games.withCards(22);
        Games.onPile(x, STRIKE, 0, 0, 0);
        Games.resolved(x, Games.ADD, 0, 10, 3);
        due("matter of card 23", x.matter(), 1 << 23);
        LayeredCards y = new LayeredCards();
        Games.onPile(y, STRIKE, 0, 0, 0);
        for (int i = 0; i < 23; i++) {
            Games.resolved(y, Games.ADD, 0, 10, i % 2 == 0 ? 1 : -1);
        }
        due("matter of all but the strike", y.matter(), (1 << 24) - 2);
    }

    /** "CARDS on the TABLE": none that is in a HAND, a DECK, on the PILE, GONE. */
    private static void matterOnTheTable() {
        LayeredCards x = Games.eachPlace(Games.TWICE, 0);
        for (int place = 0; place < 3; place++) {
            // all fit what comes, if they were on the TABLE
            due("place", x.of(place, 5), place);
        }
        x.base(0, 3);
        Games.onPile(x, FETCH, 1, 0, 0);
        due("the one on the table", x.matter(), 1 << 3);
    }

    /** "or leave another LIFE": of PLAYER 0 alone, of PLAYER 1 alone; not another HAND. */
    private static void matterByWhat() {
        for (int player = 0; player < 2; player++) {
            LayeredCards x = new LayeredCards();
            int less = Games.resolved(x, LESS, player, 10, 1);
            Games.resolved(x, LESS, 1 - player, 10, 1);
            Games.onPile(x, STRIKE, 1 - player, 0, 0);
            due("matter of a life of " + player, x.matter(), 1 << less);
        }
        LayeredCards y = new LayeredCards();
        Games.resolved(y, Games.TWICE, 0, 0, 0);
        y.card(HEAL, 0, 0, 0);
        y.card(HEAL, 0, 0, 0);
        Games.onPile(y, FETCH, 0, 0, 0);
        due("another hand matters not", y.matter(), 0);
        Games.onPile(y, FETCH, 0, 0, 0);
        due("another life does", y.matter(), 1);
    }

    /** "(were it GONE) a RUN would end otherwise": the LIVES are alike. */
    private static void matterByTheEnd() {
        LayeredCards x = new LayeredCards();
        x.mend(1, 99);
        int mends = Games.resolved(x, ECHO, 1, 22, 1);
        Games.onPile(x, HEAL, 1, 0, 0);
        due("a loop", x.dry(0), 2);
        due("matter", x.matter(), 1 << mends);
        due("swing", x.swing(mends), 0);
    }

    /** When somebody has LOST nothing is run: nothing matters. */
    private static void matterWhenLost() {
        LayeredCards x = new LayeredCards();
        int add = Games.resolved(x, Games.ADD, 0, 10, 3);
        Games.onPile(x, STRIKE, 0, 0, 0);
        x.mend(0, 1);
        due("matter", x.matter(), 1 << add);
        due("swing", x.swing(add), 3);
        x.mend(0, 0);
        due("matter, lost", x.matter(), 0);
        due("swing, lost", x.swing(add), 0);
    }

    /** 25: "VOID: BAD, it isn't on the TABLE": each other place, no such CARD. */
    private static void swingOfWhich() {
        LayeredCards x = Games.eachPlace(Games.TWICE, 1);
        int[] due = {VOID, VOID, VOID, 0, VOID};
        for (int place = 0; place < 5; place++) {
            due("swing in place " + place, x.swing(place), due[place]);
        }
        int[] none = {-1, -2, 5, 24, 256, LOW, HIGH};
        for (int n : none) {
            due("swing(" + n + ")", x.swing(n), VOID);
        }
        LayeredCards full = Games.withCards(23);
        int last = Games.resolved(full, ECHO, 0, 33, 0);
        due("swing(23)", full.swing(last), 0);
    }

    /** "WORTH of its OWNER behind a RUN, less what that would be, were it GONE". */
    private static void swingOfWhom() {
        for (int owner = 0; owner < 2; owner++) {
            LayeredCards x = new LayeredCards();
            int help = Games.resolved(x, LESS, owner, 10, 2);
            int harm = Games.resolved(x, LESS, owner, 10, -1);
            int other = Games.resolved(x, Games.ADD, 1 - owner, 10, 4);
            Games.onPile(x, STRIKE, 1 - owner, 0, 0);
            due("swing of what helps", x.swing(help), 2);
            due("swing of what harms", x.swing(harm), -1);
            due("swing of the other one's", x.swing(other), 4);
        }
    }

    /** 26: "NEXT. BAD; NOT": no such PLAYER; his DECK is empty. */
    private static void nextOfWhom() {
        LayeredCards x = new LayeredCards();
        due("next(0)", x.next(0), NOT);
        due("next(1)", x.next(1), NOT);
        due("next(-1)", x.next(-1), BAD);
        due("next(2)", x.next(2), BAD);
        due("next(LOW)", x.next(LOW), BAD);
        due("next(HIGH)", x.next(HIGH), BAD);
        int one = x.card(HEAL, 1, 0, 0);
        due("next(1) of one", x.next(1), one);
        due("next(0) of none", x.next(0), NOT);
        x.deal(one);
        due("next(1) of none", x.next(1), NOT);
        LayeredCards y = Games.eachPlace(ECHO, 0);
        due("the one in the deck", y.next(0), 0);
        y.deal(0);
        due("none in the deck, some elsewhere", y.next(0), NOT);
    }

    /** What comes is what was told. */
    private static void nextThenDraw() {
        for (int seed = -3; seed <= 3; seed++) {
            LayeredCards x = Games.withCards(20);
            x.seed(seed * 100000007);
            int next = x.next(0);
            due("in the deck", x.of(next, 5), 0);
            due("asked again", x.next(0), next);
            Games.resolved(x, FETCH, 0, 0, 0);
            due("it came", x.of(next, 5), 1);
            due("another one is next", x.next(0) == next ? 1 : 0, 0);
        }
    }

    /** 27: "n (1 .. 9) TURNS"; "TURNS (what 0), LIFE of PLAYER 0 (1), 1 (2), CARDS in his HAND of 0 (3), 1 (4)". */
    private static void aheadHowMany() {
        LayeredCards x = new LayeredCards();
        for (int n = -2; n <= 12; n++) {
            boolean right = n >= 1 && n <= 9;
            due("ahead(" + n + ", 0)", x.ahead(n, 0), right ? n : VOID);
            due("ahead(" + n + ", 1)", x.ahead(n, 1), right ? 20 - (n + 1) / 2 : VOID);
            due("ahead(" + n + ", 2)", x.ahead(n, 2), right ? 20 - n / 2 : VOID);
        }
        due("ahead(LOW, 0)", x.ahead(LOW, 0), VOID);
        due("ahead(HIGH, 0)", x.ahead(HIGH, 0), VOID);
        due("ahead(257, 0)", x.ahead(257, 0), VOID);
    }

    private static void aheadWhat() {
        LayeredCards x = new LayeredCards();
        Games.inHand(x, HEAL, 0, 0, 0);
        Games.inHand(x, HEAL, 1, 0, 0);
        Games.inHand(x, HEAL, 1, 0, 0);
        int[] due = {VOID, VOID, 1, 19, 20, 1, 2, VOID, VOID};
        for (int what = -2; what <= 6; what++) {
            due("ahead(1, " + what + ")", x.ahead(1, what), due[what + 2]);
        }
        due("ahead(1, LOW)", x.ahead(1, LOW), VOID);
        due("ahead(1, HIGH)", x.ahead(1, HIGH), VOID);
    }

    /** "no more, as soon as somebody has LOST": behind which TURN it was. */
    private static void aheadTillLost() {
        for (int life = 1; life <= 6; life++) {
            LayeredCards x = new LayeredCards();
            x.mend(0, life);
            int due = Math.min(9, 2 * life - 1);
            due("turns till 0 has lost " + life, x.ahead(9, 0), due);
            due("his life", x.ahead(9, 1), life > 5 ? life - 5 : 0);
            LayeredCards y = new LayeredCards();
            y.mend(1, life);
            due("turns till 1 has lost " + life, y.ahead(9, 0), Math.min(9, 2 * life));
        }
    }

    /** "(none, if it is so already)". */
    private static void aheadOfNone() {
        for (int player = 0; player < 2; player++) {
            LayeredCards x = new LayeredCards();
            x.mend(player, 0);
            due("turns, lost", x.ahead(1, 0), 0);
            due("life", x.ahead(1, 1 + player), 0);
            due("the other one's", x.ahead(1, 2 - player), 20);
        }
        LayeredCards y = new LayeredCards();
        Games.onPile(y, STRIKE, 0, 0, 0);
        due("turns, a pile", y.ahead(9, 0), 0);
        due("it is not run", y.ahead(9, 2), 20);
        y.resolve();
        due("turns, no pile", y.ahead(9, 0), 9);
    }

    /** "or a RUN left something on the PILE". */
    private static void aheadTillSomethingIsLeft() {
        LayeredCards x = new LayeredCards();
        Games.resolved(x, ECHO, 0, 2, 1);
        Games.resolved(x, ECHO, 0, 22, 1);
        x.mend(0, 99);
        due("a loop of mends: one turn", x.ahead(9, 0), 1);
        due("his life", x.ahead(9, 1), 99);
        LayeredCards y = new LayeredCards();
        Games.resolved(y, ECHO, 0, 2, 0);
        due("a mend of 0: nothing is left", y.ahead(9, 0), 9);
    }

    /** AHEAD is what TURNS and RUNS come to in deed. */
    private static void aheadThenTurns() {
        for (int n = 1; n <= 9; n++) {
            LayeredCards x = aheadGame();
            int[] due = new int[5];
            for (int what = 0; what < 5; what++) {
                due[what] = x.ahead(n, what);
            }
            int turns = x.count(6);
            for (int i = 0; i < n && x.turn() != STATE; i++) {
                x.run();
            }
            int[] got = {x.count(6) - turns, x.player(0, 0), x.player(1, 0), x.player(0, 2), x.player(1, 2)};
            for (int what = 0; what < 5; what++) {
                due("ahead(" + n + ", " + what + ")", due[what], got[what]);
            }
        }
    }

    private static LayeredCards aheadGame() {
        LayeredCards x = Games.withCards(12);
        Games.resolved(x, ECHO, 0, 1, 2);
        Games.resolved(x, ECHO, 1, 12, 1);
        x.base(0, 2);
        x.base(3, 3);
        return x;
    }

    /** 28: "(which 0), of what HAPPENED (1). BAD: which, i below 0; NOT: there are not as many." */
    private static void traceWhich() {
        LayeredCards x = new LayeredCards();
        for (int which = -2; which <= 3; which++) {
            boolean right = which == 0 || which == 1;
            due("trace(" + which + ", 0) of none", x.trace(which, 0), right ? NOT : BAD);
            due("trace(" + which + ", -1)", x.trace(which, -1), BAD);
            due("trace(" + which + ", 40)", x.trace(which, 40), right ? NOT : BAD);
        }
        due("trace(LOW, 0)", x.trace(LOW, 0), BAD);
        due("trace(HIGH, 0)", x.trace(HIGH, 0), BAD);
        due("trace(0, LOW)", x.trace(0, LOW), BAD);
        due("trace(1, LOW)", x.trace(1, LOW), BAD);
        due("trace(0, HIGH)", x.trace(0, HIGH), NOT);
        due("trace(1, HIGH)", x.trace(1, HIGH), NOT);
        int heal = Games.resolved(x, HEAL, 1, 0, 2);
        due("trace(0, 0)", x.trace(0, 0), heal);
        due("trace(0, 1)", x.trace(0, 1), NOT);
        due("trace(1, 0)", x.trace(1, 0), 2103);
        due("trace(1, 1)", x.trace(1, 1), NOT);
    }

    /** "the first 40": of 39, 40, 41 that were RESOLVED, and of as many that HAPPENED. */
    private static void traceOfForty() {
        for (int n = 38; n <= 42; n++) {
            LayeredCards x = Games.with60();
            for (int i = 60; i > n; i--) {
                x.resolve();
            }
            due("run", x.run(), n);
            for (int i = 36; i <= 43; i++) {
                boolean there = i < Math.min(40, n);
                due("trace(0, " + i + ") of " + n, x.trace(0, i), there ? 12100 : NOT);
                due("trace(1, " + i + ") of " + n, x.trace(1, i), there ? 2100 : NOT);
            }
        }
    }

    /** They are counted apart: what is no EVENT takes no place among those that HAPPENED. */
    private static void fortyEvents() {
        LayeredCards x = Games.with60And(3, SET);
        due("run", x.run(), 63);
        due("the first", x.trace(0, 0), 21);
        due("the third", x.trace(0, 2), 19);
        due("then shadows", x.trace(0, 3), 12100);
        due("the 40th", x.trace(0, 39), 12100);
        due("no 41st", x.trace(0, 40), NOT);
        due("the first event", x.trace(1, 0), 2100);
        due("the 40th event, of the 43rd thing", x.trace(1, 39), 2100);
        due("no 41st event", x.trace(1, 40), NOT);
    }

    /** "the first 40": not the last. */
    private static void firstOfForty() {
        LayeredCards x = Games.with60();
        int first = Games.onPile(x, HEAL, 1, 0, 8);
        due("run", x.run(), 61);
        due("the first thing", x.trace(0, 0), first);
        due("the first event", x.trace(1, 0), 2109);
        due("the last thing told", x.trace(0, 39), 12100);
        due("the last event told", x.trace(1, 39), 2100);
    }

    /** "by the latest resolve() or run()": nothing is left of one ahead of it. */
    private static void traceOfTheLatest() {
        LayeredCards x = new LayeredCards();
        Games.onPile(x, STRIKE, 0, 0, 0);
        Games.onPile(x, HEAL, 0, 0, 0);
        x.run();
        due("two", x.trace(0, 1), 0);
        due("two events", x.trace(1, 1), 1102);
        int set = Games.resolved(x, SET, 0, 0, 0);
        due("one", x.trace(0, 0), set);
        due("no second", x.trace(0, 1), NOT);
        due("no event", x.trace(1, 0), NOT);
        Games.resolved(x, HEAL, 0, 0, 0);
        due("one event", x.trace(1, 0), 2001);
        x.run();
        due("a run of nothing is the latest", x.trace(0, 0), NOT);
        due("nothing happened by it", x.trace(1, 0), NOT);
    }

    /** What a STOP takes off was not RESOLVED; a SHADOW that was lost neither. */
    private static void traceOfTheResolvedAlone() {
        LayeredCards x = new LayeredCards();
        Games.onPile(x, HEAL, 0, 0, 0);
        int stop = Games.onPile(x, STOP, 0, 0, 0);
        due("run", x.run(), 1);
        due("the stop", x.trace(0, 0), stop);
        due("not what it stopped", x.trace(0, 1), NOT);
        due("nothing happened", x.trace(1, 0), NOT);
    }

    public static void main(String[] args) {
        dryWhat();
        dryOfNothing();
        dryThenRun();
        worthOfWhich();
        worthOnAFullPile();
        worthOfWhom();
        worthOnTop();
        bestWhat();
        bestIfMore();
        bestMoreThanARun();
        bestOfLikeOnes();
        bestOfAll();
        byTurnsHowMany();
        byTurnsOfThree();
        byTurnsNone();
        byTurnsHands();
        byTurnsOfTheActive();
        matterBits();
        matterOnTheTable();
        matterByWhat();
        matterByTheEnd();
        matterWhenLost();
        swingOfWhich();
        swingOfWhom();
        nextOfWhom();
        nextThenDraw();
        aheadHowMany();
        aheadWhat();
        aheadTillLost();
        aheadOfNone();
        aheadTillSomethingIsLeft();
        aheadThenTurns();
        traceWhich();
        traceOfForty();
        fortyEvents();
        firstOfForty();
        traceOfTheLatest();
        traceOfTheResolvedAlone();
        checks.close();
    }
}
