/** Promises 29 to 31: SEED, AN IMAGE, what it keeps and what it doesn't: each boundary has a test of its own. */
public final class EdgesOfImages {
    private static final Checks checks = new Checks("EdgesOfImages");
    private static final int HEAL = Games.HEAL, STRIKE = Games.STRIKE, STOP = Games.STOP, ECHO = Games.ECHO;
    private static final int BAD = Games.BAD, NOT = Games.NOT, STATE = Games.STATE, LOW = Games.LOW, HIGH = Games.HIGH;

    private static void due(String call, long got, long want) {
        checks.due(call, got, want);
    }

    /** 29: "SEED becomes v: what it was": any int. */
    private static void seeds() {
        LayeredCards x = new LayeredCards();
        int[] seeds = {LOW, HIGH, 0, -1, -2, -5, 1, 1103527590, -2000000000};
        int was = 1;
        for (int seed : seeds) {
            due("seed(" + seed + ")", x.seed(seed), was);
            was = seed;
        }
    }

    /** "(an int, wrapping)". */
    private static void seedsWrapAround() {
        int[][] rows = {{1, 1103527590}, {0, 12345}, {-1, -1103502900}, {2, -2087924461}, {LOW, LOW + 12345},
            {HIGH, LOW - 1103515245 + 12345}};
        for (int[] row : rows) {
            LayeredCards x = new LayeredCards();
            x.card(HEAL, 0, 0, 0);
            x.seed(row[0]);
            Games.resolved(x, Games.FETCH, 0, 0, 0);
            due("seed behind " + row[0], x.seed(0), row[1]);
        }
    }

    /** 31: "STATE: there is none." */
    private static void noImage() {
        LayeredCards x = Games.withCards(2);
        due("back", x.back(), STATE);
        due("cards", x.count(0), 2);
        x.image();
        due("back", x.back(), 2);
        due("and again", x.back(), 2);
    }

    /** 30: "how many CARDS": 0 to 24. */
    private static void imageOfHowMany() {
        for (int n = 0; n <= 24; n++) {
            LayeredCards x = Games.withCards(n);
            due("image of " + n, x.image(), n);
            x.card(HEAL, 0, 0, 0);
            due("back to " + n, x.back(), n);
            due("cards", x.count(0), n);
        }
    }

    /** "CARDS that came since are no more": their numbers are free again. */
    private static void cardsThatCameSince() {
        LayeredCards x = Games.withCards(3);
        x.image();
        for (int n = 3; n < 24; n++) {
            x.card(ECHO, 1, 33, 9);
        }
        due("the last", x.of(23, 0), ECHO);
        due("back", x.back(), 3);
        due("the last that is kept", x.of(2, 0), HEAL);
        due("the first that is no more", x.of(3, 0), BAD);
        due("the last of them", x.of(23, 0), BAD);
        due("deal", x.deal(3), BAD);
        due("play", x.play(3), BAD);
        due("worth", x.worth(3), Games.VOID);
        due("hold", x.hold(0, 3), BAD);
        due("deck of 1", x.player(1, 1), 1);
        for (int n = 3; n < 24; n++) {
            due("a new card", x.card(STOP, 0, 12, -9), n);
        }
        due("full", x.card(STOP, 0, 0, 0), Games.FULL);
        due("it is itself", x.of(3, 0), STOP);
        due("its owner", x.of(3, 1), 0);
        due("its a", x.of(3, 4), 1);
        due("its place", x.of(3, 5), 0);
    }

    /** A CARD that came since, on the TABLE or on the PILE, is neither there. */
    private static void cardsThatCameSinceElsewhere() {
        LayeredCards x = new LayeredCards();
        Games.resolved(x, Games.ADD, 0, 0, 1);
        x.image();
        Games.resolved(x, Games.ADD, 0, 0, 5);
        Games.onPile(x, STOP, 0, 0, 0);
        due("value", x.value(0), 7);
        x.back();
        due("value", x.value(0), 2);
        due("on the table", x.count(2), 1);
        due("on the pile", x.count(1), 0);
        due("layers", x.layer(1), NOT);
        due("a new one's age", x.of(Games.resolved(x, ECHO, 0, 0, 0), 6), 1);
    }

    /** Nothing is asked of a CARD that is no more, in whatever place it was. */
    private static void noMoreAnywhere() {
        LayeredCards x = new LayeredCards();
        int like = Games.resolved(x, Games.LIKE, 0, 1, 0);
        x.image();
        int add = Games.resolved(x, Games.ADD, 0, 10, 1);
        int hand = Games.inHand(x, HEAL, 0, 0, 0);
        int pile = Games.onPile(x, HEAL, 0, 0, 0);
        due("depends", x.depends(like, add), 1);
        due("swing", x.swing(add), 0);
        due("worth", x.worth(hand), 2);
        due("best", x.best(0, 0), hand);
        x.back();
        due("depends on one that is no more", x.depends(like, add), BAD);
        due("the other way", x.depends(add, like), BAD);
        due("swing of it", x.swing(add), Games.VOID);
        due("worth of one that is no more", x.worth(hand), Games.VOID);
        due("best", x.best(0, 0), NOT);
        due("play", x.play(hand), BAD);
        due("deal", x.deal(pile), BAD);
        due("run", x.run(), 0);
        due("matter", x.matter(), 0);
        due("in the hand", x.player(0, 2), 0);
    }

    /** "keeps LIVES": of each PLAYER. */
    private static void keepsLives() {
        for (int player = 0; player < 2; player++) {
            LayeredCards x = new LayeredCards();
            x.mend(player, -99);
            x.image();
            x.mend(player, 99);
            x.back();
            due("life of " + player, x.player(player, 0), -99);
            due("the other one's", x.player(1 - player, 0), 20);
        }
    }

    /** "where they are": each place, whatever place they came to since. */
    private static void keepsPlaces() {
        LayeredCards x = Games.eachPlace(ECHO, 0);
        x.image();
        x.deal(0);
        x.play(0);
        x.play(1);
        x.run();
        Games.resolved(x, Games.CLEAR, 1, 0, 0);
        x.back();
        for (int place = 0; place < 5; place++) {
            due("place " + place, x.of(place, 5), place);
        }
    }

    /** "AGES": the order of those on the TABLE, and their numbers. */
    private static void keepsAges() {
        LayeredCards x = new LayeredCards();
        int late = x.card(Games.TIMES, 0, 0, 5);
        int early = Games.resolved(x, Games.ADD, 0, 0, 1);
        x.deal(late);
        x.play(late);
        x.resolve();
        x.image();
        Games.resolved(x, Games.CLEAR, 1, 0, 0);
        Games.resolved(x, Games.CLEAR, 1, 0, 0);
        due("the table is empty", x.count(2), 0);
        x.back();
        due("age of the first", x.of(early, 6), 0);
        due("age of the second", x.of(late, 6), 1);
        due("the first layer", x.layer(0), early);
        due("the value", x.value(0), 10);
    }

    private static void keepsTheClock() {
        LayeredCards x = new LayeredCards();
        Games.resolved(x, ECHO, 0, 33, 0);
        x.image();
        Games.resolved(x, ECHO, 0, 33, 0);
        Games.resolved(x, ECHO, 0, 33, 0);
        due("clock", x.count(5), 3);
        x.back();
        due("clock, back", x.count(5), 1);
        due("the next age", x.of(Games.resolved(x, ECHO, 0, 33, 0), 6), 1);
    }

    private static void keepsBases() {
        for (int value = 0; value < 4; value++) {
            LayeredCards x = new LayeredCards();
            x.base(value, -99);
            x.image();
            x.base(value, 99);
            x.back();
            due("value " + value, x.value(value), -99);
            due("base " + value, x.base(value, 0), -99);
        }
    }

    /** "the PILE": CARDS and SHADOWS, in their order; empty, too. */
    private static void keepsThePile() {
        LayeredCards x = new LayeredCards();
        Games.resolved(x, ECHO, 0, 12, 3);
        Games.resolved(x, STRIKE, 0, 0, 0);
        int one = Games.onPile(x, HEAL, 0, 0, 0);
        int other = Games.onPile(x, HEAL, 1, 0, 0);
        x.image();
        x.run();
        due("the pile is empty", x.count(1), 0);
        Games.onPile(x, STOP, 0, 0, 0);
        x.back();
        int[] row = {other, one, 12003, NOT};
        for (int i = 0; i < row.length; i++) {
            due("pile(" + i + ")", x.pile(i), row[i]);
        }
        LayeredCards y = new LayeredCards();
        y.image();
        Games.onPile(y, STOP, 0, 0, 0);
        y.back();
        due("an empty pile", y.count(1), 0);
        due("pile(0)", y.pile(0), NOT);
    }

    private static void keepsAFullPile() {
        LayeredCards x = Games.with60And(4, STOP);
        x.image();
        for (int i = 0; i < 5; i++) {
            x.resolve();
        }
        x.back();
        due("64 things", x.count(1), 64);
        due("the top", x.pile(0), 22);
        due("the bottom", x.pile(63), 12100);
    }

    private static void keepsTheSeed() {
        int[] seeds = {LOW, -1, 0, 77, HIGH};
        for (int seed : seeds) {
            LayeredCards x = new LayeredCards();
            x.seed(seed);
            x.image();
            x.seed(seed + 1);
            x.back();
            due("seed", x.seed(0), seed);
        }
    }

    /** "who is ACTIVE, TURNS". */
    private static void keepsTheActive() {
        for (int before = 0; before < 4; before++) {
            LayeredCards x = new LayeredCards();
            for (int i = 0; i < before; i++) {
                x.turn();
            }
            x.image();
            x.turn();
            x.back();
            due("active behind " + before, x.count(7), before % 2);
            due("turns", x.count(6), before);
        }
    }

    /** "HANDLES of numbers of which there is no CARD hold nothing then": each HANDLE; others hold what they hold. */
    private static void handlesOfNoCard() {
        for (int handle = 0; handle < 8; handle++) {
            LayeredCards x = Games.withCards(2);
            x.image();
            x.card(ECHO, 0, 0, 0);
            x.card(ECHO, 0, 0, 0);
            for (int i = 0; i < 8; i++) {
                x.hold(i, i == handle ? 2 : 1);
            }
            due("it holds the card", x.tells(handle, 0), 100 + ECHO);
            x.back();
            for (int i = 0; i < 8; i++) {
                due("handle " + i, x.tells(i, 0), i == handle ? -11 : 100 + HEAL);
            }
            x.card(ECHO, 0, 0, 0);
            due("not the new card of that number", x.tells(handle, 0), -11);
        }
    }

    /** HANDLES are no part of AN IMAGE: what they hold is not laid back. */
    private static void handlesStay() {
        LayeredCards x = Games.withCards(2);
        int echo = x.card(ECHO, 0, 0, 0);
        x.hold(0, 0);
        x.hold(1, 0);
        x.image();
        x.hold(0, echo);
        x.hold(1, -1);
        x.hold(2, 1);
        x.back();
        due("another one", x.tells(0, 0), 100 + ECHO);
        due("nothing", x.tells(1, 0), -11);
        due("something", x.tells(2, 0), 100 + HEAL);
    }

    private static void handlesOfAnEmptyImage() {
        LayeredCards x = new LayeredCards();
        x.image();
        x.card(HEAL, 0, 0, 0);
        x.hold(0, 0);
        due("back", x.back(), 0);
        due("handle 0", x.tells(0, 0), -11);
    }

    /** "THE TRACE, what HAPPENED, how the latest RUN ended .. stay". */
    private static void theTraceStays() {
        LayeredCards x = Games.looping();
        x.image();
        x.run();
        due("back", x.back(), 3);
        due("trace", x.trace(0, 0), 2);
        due("trace", x.trace(0, 2), 11001);
        due("no more", x.trace(0, 3), NOT);
        due("happened", x.trace(1, 1), 2001);
        due("ended", x.ended(0), 2);
        due("the earlier one", x.ended(1), 1);
        due("between", x.ended(2), 2);
    }

    /** They are not kept by an IMAGE either. */
    private static void theTraceIsNotKept() {
        LayeredCards x = Games.looping();
        x.run();
        x.image();
        x.mend(1, 0);
        x.run();
        x.resolve();
        x.back();
        due("trace", x.trace(0, 1), NOT);
        due("happened", x.trace(1, 1), NOT);
        due("one thing", x.trace(0, 0), 12001);
        due("ended", x.ended(0), 1);
        due("no loop", x.ended(1), NOT);
    }

    /** "THE TAPE stay". */
    private static void theTapeStays() {
        LayeredCards x = new LayeredCards();
        Games.feedText(x, "heal 0");
        x.image();
        Games.feedText(x, " 1 2 3");
        x.back();
        due("bytes", x.count(4), 12);
        due("the text", x.deck(), 1);
        due("the card", x.of(0, 4), 13);
        x.back();
        due("the tape is empty still", x.count(4), 0);
        due("cards", x.count(0), 0);
    }

    /** The latest IMAGE is the one; it stays when it is laid back, whatever comes then. */
    private static void theLatestImage() {
        LayeredCards x = new LayeredCards();
        x.mend(0, 5);
        x.image();
        x.mend(0, 6);
        x.card(HEAL, 0, 0, 0);
        due("a second image", x.image(), 1);
        x.mend(0, 7);
        due("back", x.back(), 1);
        due("life", x.player(0, 0), 6);
        x.mend(0, 8);
        x.deal(0);
        due("back again", x.back(), 1);
        due("life", x.player(0, 0), 6);
        due("place", x.of(0, 5), 0);
    }

    /** What is in thought, and a RUN, leave the IMAGE as it is. */
    private static void theImageIsNotTouched() {
        LayeredCards x = Games.looping();
        Games.inHand(x, HEAL, 0, 0, 0);
        x.image();
        x.dry(0);
        x.worth(3);
        x.best(0, 0);
        x.byTurns(3);
        x.matter();
        x.swing(0);
        x.ahead(3, 0);
        x.run();
        x.back();
        due("the pile", x.count(1), 1);
        due("its top", x.pile(0), 2);
        due("life", x.player(0, 0), 20);
        due("the hand", x.of(3, 5), 1);
    }

    public static void main(String[] args) {
        seeds();
        seedsWrapAround();
        noImage();
        imageOfHowMany();
        cardsThatCameSince();
        cardsThatCameSinceElsewhere();
        noMoreAnywhere();
        keepsLives();
        keepsPlaces();
        keepsAges();
        keepsTheClock();
        keepsBases();
        keepsThePile();
        keepsAFullPile();
        keepsTheSeed();
        keepsTheActive();
        handlesOfNoCard();
        handlesStay();
        handlesOfAnEmptyImage();
        theTraceStays();
        theTraceIsNotKept();
        theTapeStays();
        theLatestImage();
        theImageIsNotTouched();
        checks.close();
    }
}
