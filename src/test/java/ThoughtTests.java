/** Promises 20 to 31: in thought. */
public final class ThoughtTests {
    private static final Checks checks = new Checks("ThoughtTests");
    private static final int STRIKE = Games.STRIKE, HEAL = Games.HEAL, FETCH = Games.FETCH, STOP = Games.STOP,
        CLEAR = Games.CLEAR, ECHO = Games.ECHO;
    private static final int BAD = Games.BAD, NOT = Games.NOT, STATE = Games.STATE, VOID = Games.VOID,
        LOW = Games.LOW, HIGH = Games.HIGH;

    private static void due(String call, long got, long want) {
        checks.due(call, got, want);
    }

    /** What calls tell of a game without changing it, in one number. It takes few calls: an object has 512. */
    private static long look(LayeredCards x) {
        long sum = 7;
        for (int n = 0; n < x.count(0); n++) {
            sum = (sum * 31 + x.of(n, 5)) * 31 + x.of(n, 6);
        }
        for (int i = 0; i < x.count(1); i++) {
            sum = sum * 31 + x.pile(i);
        }
        for (int i = 0; i < 4; i++) {
            sum = (sum * 31 + x.trace(0, i)) * 31 + x.trace(1, i);
        }
        for (int i = 0; i < 9; i++) {
            sum = sum * 31 + x.count(i);
        }
        sum = (sum * 31 + x.player(0, 0)) * 31 + x.player(1, 0);
        for (int i = 0; i < 3; i++) {
            sum = sum * 31 + x.ended(i);
        }
        int seed = x.seed(0);
        x.seed(seed);
        return sum * 31 + seed;
    }

    private static void dry() {
        LayeredCards x = new LayeredCards();
        int[] none = {0, 0, 20, 20};
        for (int what = 0; what < 4; what++) {
            due("dry of nothing " + what, x.dry(what), none[what]);
        }
        x.card(HEAL, 0, 0, 0);
        Games.onPile(x, STRIKE, 0, 0, 5);
        Games.onPile(x, HEAL, 0, 0, 1);
        Games.onPile(x, FETCH, 0, 0, 2);
        Games.onPile(x, ECHO, 0, 33, 2);
        int[] is = {0, 4, 20, 13};
        long before = look(x);
        for (int what = 0; what < 4; what++) {
            due("dry(" + what + ")", x.dry(what), is[what]);
        }
        due("nothing changes", look(x), before);
        int[] wrong = {-1, 4, LOW, HIGH};
        for (int w : wrong) {
            due("dry(" + w + ")", x.dry(w), VOID);
        }
        x.mend(1, 7);
        int[] lost = {1, 4, 20, 0};
        for (int what = 0; what < 4; what++) {
            due("dry to the end " + what, x.dry(what), lost[what]);
        }
        x.mend(0, 0);
        due("dry: lost", x.dry(0), 1);
        due("dry: at once", x.dry(1), 0);
        due("ended is of runs in deed", x.ended(0), 0);
        LayeredCards y = Games.looping();
        int[] loop = {2, 3, 15, 20};
        for (int what = 0; what < 4; what++) {
            due("dry loop " + what, y.dry(what), loop[what]);
        }
        due("ended(1) is of runs in deed", y.ended(1), NOT);
    }

    private static void worth() {
        LayeredCards x = new LayeredCards();
        int strike = Games.inHand(x, STRIKE, 0, 0, 5);
        int heal = Games.inHand(x, HEAL, 1, 0, 5);
        int echo = Games.inHand(x, ECHO, 1, 11, 4);
        int deck = x.card(HEAL, 0, 0, 0);
        x.mend(0, 15);
        long before = look(x);
        due("worth of a strike", x.worth(strike), 2);
        due("worth of a heal", x.worth(heal), 11);
        due("worth of an echo", x.worth(echo), 5);
        due("nothing changes", look(x), before);
        due("worth in the deck", x.worth(deck), VOID);
        int[] wrong = {-1, 24, x.count(0), LOW, HIGH};
        for (int w : wrong) {
            due("worth(" + w + ")", x.worth(w), VOID);
        }
        x.play(heal);
        due("worth on the pile", x.worth(heal), VOID);
        due("worth with the pile as it is", x.worth(strike), -4);
        due("worth of a stop", x.worth(Games.inHand(x, STOP, 0, 0, 0)), -5);
        x.run();
        due("worth when gone", x.worth(heal), VOID);
        x.play(echo);
        x.run();
        due("worth on the table", x.worth(echo), VOID);
        x.mend(1, 3);
        due("worth till lost", x.worth(strike), 19);
        x.mend(1, -3);
        due("worth when lost", x.worth(strike), 18);
        LayeredCards y = Games.withFullPile();
        due("worth with a full pile", y.worth(Games.inHand(y, STRIKE, 0, 0, 0)), VOID);
    }

    private static void best() {
        LayeredCards x = new LayeredCards();
        due("best of no hand", x.best(0, 0), NOT);
        due("its worth", x.best(0, 1), 0);
        x.mend(1, 25);
        due("its worth without a card", x.best(0, 1), -5);
        due("the other one's", x.best(1, 1), 5);
        int first = Games.inHand(x, STRIKE, 0, 0, -2);
        due("no more than without", x.best(0, 0), NOT);
        x.base(1, 3);
        due("the first card", x.best(0, 0), first);
        due("its worth", x.best(0, 1), -4);
        due("by turns, too", x.byTurns(1), -4);
        x.base(1, 2);
        int five = Games.inHand(x, STRIKE, 0, 0, 3);
        Games.inHand(x, HEAL, 0, 0, 4);
        Games.inHand(x, HEAL, 1, 0, 9);
        Games.onPile(x, ECHO, 1, 33, 0);
        x.card(STRIKE, 0, 0, 9);
        long before = look(x);
        due("of like ones the least", x.best(0, 0), five);
        due("its worth", x.best(0, 1), 0);
        due("the other one's", x.best(1, 1), 15);
        due("his card", x.best(1, 0), 3);
        due("nothing changes", look(x), before);
        int more = Games.inHand(x, HEAL, 0, 0, 6);
        due("a greater one", x.best(0, 0), more);
        due("its worth", x.best(0, 1), 2);
        int[][] wrong = {{-1, 0}, {2, 0}, {0, -1}, {0, 2}, {LOW, 0}, {HIGH, 0}, {0, LOW}, {0, HIGH}};
        for (int[] w : wrong) {
            due("best" + java.util.Arrays.toString(w), x.best(w[0], w[1]), VOID);
        }
        LayeredCards y = Games.withFullPile();
        Games.inHand(y, STOP, 1, 0, 0);
        Games.inHand(y, HEAL, 1, 0, 9);
        y.mend(1, 9);
        due("a full pile", y.best(1, 0), NOT);
        due("its worth", y.best(1, 1), -100);
        due("the other one's", y.best(0, 1), 100);
    }

    private static void harmfulHand() {
        LayeredCards x = new LayeredCards();
        // on 0 a DRAW of 1 costs LIFE: to play it is worse than not to
        Games.inHand(x, FETCH, 0, 0, 0);
        due("worth of it", x.worth(0), -1);
        due("best is none", x.best(0, 0), NOT);
        due("by turns none is played", x.byTurns(1), 0);
        Games.onPile(x, STRIKE, 1, 0, 1);
        int stop = Games.inHand(x, STOP, 0, 0, 0);
        due("best stops", x.best(0, 0), stop);
        due("its worth", x.best(0, 1), 0);
        due("by turns stops", x.byTurns(1), 0);
    }

    private static void byTurns() {
        LayeredCards x = new LayeredCards();
        due("by turns, no hands", x.byTurns(3), 0);
        Games.inHand(x, STRIKE, 0, 0, 1);
        Games.inHand(x, HEAL, 0, 0, 4);
        Games.inHand(x, STRIKE, 1, 0, 2);
        Games.inHand(x, HEAL, 1, 0, 0);
        long before = look(x);
        due("one: heal 5", x.byTurns(1), 5);
        due("two: heal 5, strike 4", x.byTurns(2), 1);
        due("three: heal 5, strike 4, strike 3", x.byTurns(3), 4);
        due("nothing changes", look(x), before);
        x.base(0, 0);
        x.turn();
        due("the other one is active: strike 4", x.byTurns(1), 4);
        due("heal 5 by 0", x.byTurns(2), -1);
        due("heal 1", x.byTurns(3), 0);
        int[] wrong = {-1, 0, 4, LOW, HIGH};
        for (int w : wrong) {
            due("byTurns(" + w + ")", x.byTurns(w), VOID);
        }
        x.mend(0, 4);
        due("lost in the first", x.byTurns(1), 20);
        due("no more is run behind", x.byTurns(3), 20);
    }

    private static void firstThree() {
        LayeredCards x = new LayeredCards();
        int fetch = Games.inHand(x, HEAL, 0, 0, 0);
        Games.inHand(x, HEAL, 0, 0, 1);
        Games.inHand(x, HEAL, 0, 0, 2);
        Games.inHand(x, HEAL, 0, 0, 8);
        due("the fourth isn't thought of", x.byTurns(1), 3);
        due("behind one it is", x.byTurns(3), 3 + 9);
        x.play(fetch);
        due("the pile as it is", x.byTurns(1), 10);
        x.run();
        due("the fourth is the third", x.byTurns(1), 10);
    }

    /** To heal is best by itself; if the other one comes next it is better to clear what helps him. */
    private static void notTheNearest() {
        LayeredCards x = new LayeredCards();
        Games.resolved(x, Games.ADD, 0, 20, 9);
        Games.inHand(x, HEAL, 0, 0, 0);
        Games.inHand(x, HEAL, 1, 0, -9);
        Games.inHand(x, CLEAR, 1, 0, 0);
        x.base(0, 0);
        x.turn();
        due("one: heal 1", x.byTurns(1), 1);
        due("two: clear, heal 1", x.byTurns(2), -1);
        due("three: clear, heal 1, none", x.byTurns(3), -1);
        due("best looks no further", x.best(1, 0), 2);
        x.mend(0, 10);
        due("with another worth", x.byTurns(2), 9);
    }

    private static void byTurnsFull() {
        LayeredCards x = Games.withFullPile();
        Games.inHand(x, STOP, 0, 0, 0);
        x.mend(1, 99);
        due("a full pile: none is played", x.byTurns(1), 100);
        due("a full pile: none is played", x.byTurns(3), 100);
    }

    private static void matterAndSwing() {
        LayeredCards x = new LayeredCards();
        int add = Games.resolved(x, Games.ADD, 0, 10, 3);
        int idle = Games.resolved(x, Games.ADD, 0, 30, 3);
        int away = Games.resolved(x, Games.AWAY, 1, 10, 0);
        int loss = Games.resolved(x, Games.LESS, 1, 10, 2);
        due("matter of no pile", x.matter(), 0);
        due("swing of no pile", x.swing(add), 0);
        Games.onPile(x, STRIKE, 0, 0, 0);
        long before = look(x);
        // HIT 5 on 1 goes away to 0
        due("matter", x.matter(), 1 << add | 1 << away);
        due("swing of the add", x.swing(add), -3);
        due("swing of the away", x.swing(away), 5 + 3);
        due("swing of the less", x.swing(loss), 0);
        due("swing of the idle one", x.swing(idle), 0);
        due("nothing changes", look(x), before);
        int hand = Games.inHand(x, HEAL, 0, 0, 0);
        int[] wrong = {-1, 24, x.count(0), hand, LOW, HIGH, x.pile(0)};
        for (int w : wrong) {
            due("swing(" + w + ")", x.swing(w), VOID);
        }
        x.mend(0, 0);
        due("matter when lost", x.matter(), 0);
        due("swing when lost", x.swing(away), 0);
    }

    private static void mattersByItsEnd() {
        LayeredCards x = Games.looping();
        due("without one the loop is none", x.matter(), 3);
        LayeredCards y = new LayeredCards();
        int echo = Games.resolved(y, ECHO, 0, 22, 0);
        int other = Games.resolved(y, ECHO, 0, 12, 1);
        Games.onPile(y, STRIKE, 0, 0, 0);
        due("an echo of 0 matters not, an echo of 1 does", y.matter(), 1 << other);
        due("it is there", y.of(echo, 5), 3);
        LayeredCards z = new LayeredCards();
        z.mend(0, 99);
        int mends = Games.resolved(z, ECHO, 0, 22, 1);
        Games.onPile(z, HEAL, 0, 0, 0);
        due("a loop that changes no life", z.dry(0), 2);
        due("matters by its end alone", z.matter(), 1 << mends);
        due("swings by nothing", z.swing(mends), 0);
    }

    private static void next() {
        LayeredCards x = new LayeredCards();
        due("next of no deck", x.next(0), NOT);
        for (int i = 0; i < 4; i++) {
            x.card(HEAL, 1, 0, i);
        }
        due("next of no deck, though the other one has", x.next(0), NOT);
        x.card(HEAL, 0, 0, 0);
        due("next of one", x.next(0), 4);
        // 16838 is 2 below 4
        due("next of four", x.next(1), 2);
        due("and again", x.next(1), 2);
        due("seed stays", x.seed(3), 1);
        // 3 times 1103515245 plus 12345 is 3310558080 without sign: 50515, 3 below 4
        due("next by another seed", x.next(1), 3);
        x.deal(0);
        // 50515 is 1 below 3: of 1, 2, 3
        due("next of three", x.next(1), 2);
        int[] wrong = {-1, 2, LOW, HIGH};
        for (int w : wrong) {
            due("next(" + w + ")", x.next(w), BAD);
        }
        int tells = x.next(1);
        Games.resolved(x, FETCH, 1, 0, 0);
        due("it comes", x.of(tells, 5), 1);
        x.mend(1, -1);
        due("next when lost", x.next(0), 4);
    }

    private static void ahead() {
        LayeredCards x = new LayeredCards();
        for (int i = 0; i < 3; i++) {
            x.card(HEAL, 0, 0, i);
        }
        x.card(HEAL, 1, 0, 0);
        x.base(3, 2);
        long before = look(x);
        int[][] due = {{1, 20, 20, 1, 0}, {2, 20, 20, 1, 1}, {3, 20, 20, 2, 1}, {4, 20, 19, 2, 1}, {5, 20, 19, 2, 1},
            {6, 20, 18, 2, 1}, {7, 19, 18, 2, 1}, {8, 19, 17, 2, 1}, {9, 18, 17, 2, 1}};
        for (int n = 1; n <= 9; n++) {
            for (int what = 0; what < 5; what++) {
                due("ahead(" + n + ", " + what + ")", x.ahead(n, what), due[n - 1][what]);
            }
        }
        due("nothing changes", look(x), before);
        int[][] wrong = {{0, 0}, {10, 0}, {1, -1}, {1, 5}, {-1, 0}, {LOW, 0}, {HIGH, 0}, {1, LOW}, {1, HIGH}};
        for (int[] w : wrong) {
            due("ahead" + java.util.Arrays.toString(w), x.ahead(w[0], w[1]), VOID);
        }
        Games.inHand(x, HEAL, 1, 0, 0);
        x.mend(1, 1);
        due("ahead till lost", x.ahead(9, 0), 4);
        due("his life", x.ahead(9, 2), 0);
        x.mend(1, 0);
        due("ahead when lost", x.ahead(9, 0), 0);
        due("hands are as they are", x.ahead(9, 4), 1);
        x.mend(1, 5);
        Games.onPile(x, HEAL, 1, 0, 0);
        due("ahead with a pile", x.ahead(3, 0), 0);
        due("life is as it is", x.ahead(3, 2), 5);
    }

    private static void aheadWithRuns() {
        LayeredCards x = new LayeredCards();
        Games.resolved(x, ECHO, 0, 1, 1);
        due("a run behind each", x.ahead(1, 1), 20 - 1 - 1);
        due("on its owner each time", x.ahead(3, 1), 20 - 2 - 3);
        due("three turns", x.ahead(3, 0), 3);
        Games.resolved(x, ECHO, 0, 11, 3);
        due("a loop of hits: lost behind the first", x.ahead(9, 0), 1);
        due("life of 0", x.ahead(9, 1), 0);
        LayeredCards y = new LayeredCards();
        Games.resolved(y, ECHO, 0, 2, 1);
        Games.resolved(y, ECHO, 0, 21, 1);
        Games.resolved(y, ECHO, 0, 12, 1);
        due("a run leaves something: no more", y.ahead(9, 0), 1);
    }

    private static void trace() {
        LayeredCards x = new LayeredCards();
        int echo = Games.onPile(x, ECHO, 0, 22, 0);
        int heal = Games.onPile(x, HEAL, 1, 0, 4);
        x.run();
        due("trace 0", x.trace(0, 0), heal);
        due("trace 1", x.trace(0, 1), echo);
        due("trace 2", x.trace(0, 2), NOT);
        due("happened 0", x.trace(1, 0), 2105);
        due("happened 1", x.trace(1, 1), NOT);
        Games.resolved(x, Games.LESS, 1, 20, 2);
        due("of the latest resolve()", x.trace(0, 0), 2);
        due("nothing happened by it", x.trace(1, 0), NOT);
        due("resolve nothing", x.resolve(), STATE);
        due("that changes nothing", x.trace(0, 0), 2);
        int again = Games.onPile(x, HEAL, 1, 0, 4);
        due("play doesn't, either", x.trace(0, 0), 2);
        x.dry(0);
        due("nor what is in thought", x.trace(0, 0), 2);
        x.run();
        due("trace", x.trace(0, 0), again);
        due("happened: replaced", x.trace(1, 0), 2103);
        due("the shadow", x.trace(0, 1), 12100);
        due("its event: 0 at least", x.trace(1, 1), 2100);
        x.turn();
        due("a turn is no run", x.trace(1, 1), 2100);
        x.run();
        due("a run of nothing is the latest", x.trace(0, 0), NOT);
        int[][] wrong = {{-1, 0}, {2, 0}, {0, -1}, {1, -1}, {LOW, 0}, {HIGH, 0}, {0, LOW}, {1, LOW}, {2, 50}};
        for (int[] w : wrong) {
            due("trace" + java.util.Arrays.toString(w), x.trace(w[0], w[1]), BAD);
        }
        due("trace(0, HIGH)", x.trace(0, HIGH), NOT);
        due("trace(1, HIGH)", x.trace(1, HIGH), NOT);
    }

    private static void firstForty() {
        LayeredCards x = Games.withFullPile();
        x.run();
        for (int i = 0; i < 40; i++) {
            due("trace(0, " + i + ")", x.trace(0, i), 11102);
            due("trace(1, " + i + ")", x.trace(1, i), 1102);
        }
        due("no more than 40", x.trace(0, 40), NOT);
        due("no more than 40 events", x.trace(1, 40), NOT);
        Games.lives(x, 99, 99);
        x.resolve();
        due("of one", x.trace(0, 0), 11102);
        due("no second", x.trace(0, 1), NOT);
        due("no second event", x.trace(1, 1), NOT);
    }

    private static void seed() {
        LayeredCards x = new LayeredCards();
        due("seed", x.seed(LOW), 1);
        due("seed", x.seed(HIGH), LOW);
        due("seed", x.seed(0), HIGH);
        due("seed", x.seed(-5), 0);
        x.card(HEAL, 0, 0, 0);
        Games.resolved(x, FETCH, 0, 0, 0);
        due("a draw of one card moves it", x.seed(1), -1222596584);
        Games.resolved(x, FETCH, 0, 0, 0);
        due("a draw of none does not", x.seed(1), 1);
    }

    private static void image() {
        LayeredCards x = new LayeredCards();
        due("back without an image", x.back(), STATE);
        int echo = Games.resolved(x, ECHO, 1, 21, 3);
        int add = Games.resolved(x, Games.ADD, 0, 20, 3);
        int deck = x.card(HEAL, 0, 0, 0);
        x.base(0, 2);
        x.turn();
        int hand = Games.inHand(x, STRIKE, 0, 0, 2);
        int pile = Games.onPile(x, HEAL, 0, 0, 1);
        Games.onPile(x, STOP, 0, 0, 1);
        x.mend(0, 11);
        x.mend(1, 12);
        x.seed(77);
        due("image", x.image(), 6);
        long before = look(x);
        int after = x.card(FETCH, 1, 0, 1);
        x.hold(1, after);
        x.hold(0, after);
        x.hold(7, after);
        x.deal(after);
        Games.resolved(x, Games.SET, 1, 33, 1);
        x.hold(2, add);
        x.play(hand);
        x.play(deck);
        x.base(2, 50);
        x.base(0, 0);
        x.feed('a');
        for (int i = 0; i < 4; i++) {
            x.resolve();
        }
        x.mend(0, 50);
        x.mend(1, 50);
        x.turn();
        Games.onPile(x, CLEAR, 1, 0, 0);
        due("run", x.run(), 1);
        due("the add is gone", x.of(add, 5), 4);
        due("the clock", x.count(5), 3);
        int trace = x.trace(0, 0);
        due("back", x.back(), 6);
        due("the trace stays", x.trace(0, 0), trace);
        due("the tape stays", x.count(4), 1);
        due("the add is back", x.of(add, 5), 3);
        due("its age", x.of(add, 6), 1);
        due("the echo's age", x.of(echo, 6), 0);
        due("base 2", x.base(2, 1), 1);
        due("base 0", x.base(0, 2), 2);
        due("lives", x.player(0, 0) * 100 + x.player(1, 0), 1112);
        due("pile", x.pile(1), pile);
        due("pile's height", x.count(1), 2);
        due("active", x.count(7), 1);
        due("turns", x.count(6), 1);
        due("the later card is no more", x.of(after, 0), BAD);
        due("a handle of it holds nothing", x.tells(1, 0), -11);
        due("nor does the first", x.tells(0, 0), -11);
        due("nor does the last", x.tells(7, 0), -11);
        due("the clock is back", x.count(5), 2);
        due("a handle of another one holds it", x.tells(2, 0), 100 + Games.ADD);
        due("seed", x.seed(77), 77);
        x.deck();
        x.run();
        x.back();
        x.resolve();
        x.back();
        due("back again and again", x.back(), 6);
        due("a new card of an old number", x.card(CLEAR, 1, 33, 9), after);
        due("is itself", x.of(after, 0), CLEAR);
        due("in the deck", x.of(after, 5), 0);
        due("the handle holds it not", x.tells(1, 0), -11);
        due("nor does the first", x.tells(0, 0), -11);
        due("nor does the last", x.tells(7, 0), -11);
        due("a new image", x.image(), 7);
        due("back to it", x.back(), 7);
        due("it is there", x.of(after, 4), 19);
        checks.holds("looks were of something", before != 0);
    }

    private static void imageIsAll() {
        LayeredCards x = Games.looping();
        x.card(HEAL, 0, 0, 0);
        x.card(HEAL, 0, 0, 0);
        x.run();
        x.image();
        long before = look(x);
        x.resolve();
        x.deal(3);
        x.mend(0, 90);
        x.back();
        x.run();
        x.back();
        due("ended stays: the latest run", x.ended(1), 0);
        due("trace stays: the latest run", x.trace(0, 0), 12001);
        x.resolve();
        x.resolve();
        x.mend(0, 15);
        x.back();
        LayeredCards y = Games.looping();
        y.card(HEAL, 0, 0, 0);
        y.card(HEAL, 0, 0, 0);
        y.run();
        due("a like game looks alike", look(y), before);
        y.image();
        y.seed(9);
        y.back();
        due("the seed is back", look(y), before);
        y.turn();
        y.mend(0, 0);
        y.back();
        due("lives are back", look(y), before);
    }

    public static void main(String[] args) {
        dry();
        worth();
        best();
        harmfulHand();
        byTurns();
        firstThree();
        notTheNearest();
        byTurnsFull();
        matterAndSwing();
        mattersByItsEnd();
        next();
        ahead();
        aheadWithRuns();
        trace();
        firstForty();
        seed();
        image();
        imageIsAll();
        checks.close();
    }
}
