import java.util.List;

/**
 * "What is answered so changes nothing": each call that is refused is made on an object of its own, and all that
 * calls tell behind it is held against a like object on which it was not made. So are the calls that only tell,
 * and those in thought.
 */
public final class RefusedCalls {
    private static final Checks checks = new Checks("RefusedCalls");
    private static final int BAD = Games.BAD, NOT = Games.NOT, FULL = Games.FULL, STATE = Games.STATE,
        VOID = Games.VOID, LOW = Games.LOW, HIGH = Games.HIGH, NOTHING_THERE = -11, OTHER_FAMILY = -12;

    interface Call {
        int on(LayeredCards x);
    }

    interface Setup {
        LayeredCards made();
    }

    private static void changesNothing(String name, Setup setup, Call call) {
        List<String> without = Look.at(setup.made());
        LayeredCards x = setup.made();
        call.on(x);
        String difference = Look.difference(Look.at(x), without);
        checks.holds(name + " changes nothing, but: " + difference, difference.isEmpty());
    }

    private static void refused(String name, Setup setup, int want, Call call) {
        checks.due(name, call.on(setup.made()), want);
        changesNothing(name, setup, call);
    }

    /** A call of one number, on a rich object. */
    interface OfOne {
        int on(LayeredCards x, int i);
    }

    interface OfTwo {
        int on(LayeredCards x, int i, int j);
    }

    private static void refusedOne(String name, int want, OfOne call, int... wrong) {
        for (int i : wrong) {
            refused(name + "(" + i + ")", Games::rich, want, x -> call.on(x, i));
        }
    }

    private static void refusedTwo(String name, int want, OfTwo call, int[][] wrong) {
        for (int[] w : wrong) {
            refused(name + "(" + w[0] + ", " + w[1] + ")", Games::rich, want, x -> call.on(x, w[0], w[1]));
        }
    }

    /** rich() is what its numbers say, and a look sees when something has changed. */
    private static void theLookSees() {
        LayeredCards x = Games.rich();
        checks.due("cards", x.count(0), Games.RICH_CARDS);
        checks.due("in the deck", x.of(Games.RICH_IN_DECK, 5), 0);
        checks.due("in the hand", x.of(Games.RICH_IN_HAND, 5), 1);
        checks.due("on the pile", x.of(Games.RICH_ON_PILE, 5), 2);
        checks.due("on the table", x.of(Games.RICH_ON_TABLE, 5), 3);
        checks.due("gone", x.of(Games.RICH_GONE, 5), 4);
        checks.due("a loop was run", x.ended(0), 2);
        checks.due("a thing and a shadow", x.count(1), 2);
        Call[] changes = {y -> y.card(0, 0, 0, 0), y -> y.feed(' '), y -> y.deck(), y -> y.deal(Games.RICH_IN_DECK),
            y -> y.base(0, 4), y -> y.base(3, 8), y -> y.mend(0, 9), y -> y.play(Games.RICH_IN_HAND), y -> y.resolve(),
            y -> y.run(), y -> y.seed(2), y -> y.image(), y -> y.back(), y -> y.hold(1, 0), y -> y.hold(0, -1)};
        List<String> without = Look.at(Games.rich());
        for (int i = 0; i < changes.length; i++) {
            LayeredCards y = Games.rich();
            changes[i].on(y);
            checks.holds("the look sees change " + i, !Look.difference(Look.at(y), without).isEmpty());
        }
    }

    private static void cards() {
        int[][] wrong = {{-1, 0, 0, 0}, {15, 0, 0, 0}, {0, -1, 0, 0}, {0, 2, 0, 0}, {0, 0, -1, 0}, {0, 0, 4, 0},
            {0, 0, 34, 0}, {0, 0, 40, 0}, {0, 0, 0, -10}, {0, 0, 0, 10}, {LOW, 0, 0, 0}, {0, LOW, 0, 0}, {0, 0, LOW, 0},
            {0, 0, 0, LOW}, {HIGH, 0, 0, 0}, {0, HIGH, 0, 0}, {0, 0, HIGH, 0}, {0, 0, 0, HIGH}};
        for (int[] w : wrong) {
            Call call = x -> x.card(w[0], w[1], w[2], w[3]);
            refused("card" + java.util.Arrays.toString(w), Games::rich, BAD, call);
        }
        refused("card, no room", () -> Games.withCards(24), FULL, x -> x.card(0, 0, 0, 0));
        refused("card, no room but bad", () -> Games.withCards(24), BAD, x -> x.card(15, 0, 0, 0));
        refusedOne("feed", BAD, LayeredCards::feed, -1, 256, LOW, HIGH);
        refused("feed, no room", () -> Games.withBytes(120), FULL, x -> x.feed('a'));
        refused("feed, no room but bad", () -> Games.withBytes(120), BAD, x -> x.feed(256));
        refusedTwo("of", BAD, LayeredCards::of, new int[][] {{-1, 0}, {Games.RICH_CARDS, 0}, {24, 0}, {0, -1}, {0, 7}});
        refusedOne("deal", BAD, LayeredCards::deal, -1, Games.RICH_CARDS, 24, LOW, HIGH);
        refusedOne("deal", STATE, LayeredCards::deal, Games.RICH_IN_HAND, Games.RICH_ON_PILE, Games.RICH_ON_TABLE,
            Games.RICH_GONE);
        refusedTwo("base", VOID, LayeredCards::base,
            new int[][] {{-1, 5}, {4, 5}, {0, -100}, {0, 100}, {3, -100}, {3, 100}, {LOW, 5}, {HIGH, 5}, {1, LOW}, {1, HIGH}});
        refusedTwo("mend", VOID, LayeredCards::mend,
            new int[][] {{-1, 5}, {2, 5}, {0, -100}, {0, 100}, {1, -100}, {1, 100}, {LOW, 5}, {HIGH, 5}, {1, LOW}, {1, HIGH}});
        refusedTwo("player", VOID, LayeredCards::player, new int[][] {{-1, 0}, {2, 0}, {0, -1}, {0, 5}});
    }

    /** THE TAPE is empty behind deck() in any case; else a TEXT that is refused changes nothing. */
    private static void decks() {
        String[] faulty = {"heal 1 2 3 -4 ", "heal 1 2 3", "heal 1 2 3 4;", "heal 1 2 3 4;heal 1 2 4 4", "x", ""};
        for (String text : faulty) {
            List<String> without = Look.at(emptiedRich());
            LayeredCards x = emptiedRich();
            Games.feedText(x, text);
            checks.holds("deck of '" + text + "' is refused", x.deck() <= -100);
            String difference = Look.difference(Look.at(x), without);
            checks.holds("deck of '" + text + "' changes nothing, but: " + difference, difference.isEmpty());
        }
        for (int n = 22; n <= 24; n++) {
            List<String> without = Look.at(Games.withCards(n));
            LayeredCards x = Games.withCards(n);
            checks.due("deck of three, " + n + " there",
                Games.deckOf(x, "add 0 0 0 1;add 1 0 0 1;echo 0 0 0 1"), FULL);
            String difference = Look.difference(Look.at(x), without);
            checks.holds("deck of too many changes nothing, but: " + difference, difference.isEmpty());
        }
    }

    private static LayeredCards emptiedRich() {
        LayeredCards x = Games.rich();
        x.feed('!');
        x.deck();
        return x;
    }

    private static void values() {
        refusedOne("value", VOID, LayeredCards::value, -1, 4, LOW, HIGH);
        refusedOne("layer", BAD, LayeredCards::layer, -1, LOW);
        refusedOne("layer", NOT, LayeredCards::layer, 2, 24, HIGH);
        refusedTwo("depends", BAD, LayeredCards::depends, new int[][] {{0, 0}, {-1, 0}, {0, -1}, {0, 24},
            {Games.RICH_CARDS, 0}, {0, 2}, {3, 0}, {0, Games.RICH_ON_PILE}});
        refusedTwo("used", BAD, LayeredCards::used, new int[][] {{-1, -1}, {200, -1}, {1200, 0}, {2200, -2}, {3000, -1},
            {1000, -3}, {LOW, -1}, {HIGH, -1}, {1000, LOW}});
        refusedTwo("used", NOT, LayeredCards::used, new int[][] {{1105, 0}, {2105, 1}, {2105, HIGH}});
    }

    private static void pile() {
        refusedOne("play", BAD, LayeredCards::play, -1, Games.RICH_CARDS, 24, LOW, HIGH);
        refusedOne("play", STATE, LayeredCards::play, Games.RICH_IN_DECK, Games.RICH_ON_PILE, Games.RICH_ON_TABLE,
            Games.RICH_GONE);
        refused("play, no room", RefusedCalls::fullWithHand, FULL, x -> x.play(23));
        refused("play, no room but elsewhere", RefusedCalls::fullWithHand, STATE, x -> x.play(22));
        refused("play, no room but none", RefusedCalls::fullWithHand, BAD, x -> x.play(24));
        refusedOne("pile", BAD, LayeredCards::pile, -1, LOW);
        refusedOne("pile", NOT, LayeredCards::pile, 2, 64, HIGH);
        refused("resolve nothing", RefusedCalls::richWithNoPile, STATE, LayeredCards::resolve);
        refusedOne("ended", BAD, LayeredCards::ended, -1, 3, LOW, HIGH);
        refused("turn with a pile", Games::rich, STATE, LayeredCards::turn);
        refused("turn, 0 has lost", () -> richWithLife(0, 0), STATE, LayeredCards::turn);
        refused("turn, 1 has lost", () -> richWithLife(1, -1), STATE, LayeredCards::turn);
    }

    /** 64 things on the PILE, CARD 23 in a HAND. */
    private static LayeredCards fullWithHand() {
        LayeredCards x = Games.with60And(4, Games.STOP);
        Games.inHand(x, Games.HEAL, 0, 0, 3);
        return x;
    }

    /** What the latest resolve() did is told still. */
    private static LayeredCards richWithNoPile() {
        LayeredCards x = Games.rich();
        Games.onPile(x, Games.STOP, 0, 0, 0);
        Games.onPile(x, Games.STOP, 0, 0, 0);
        x.resolve();
        x.resolve();
        if (x.count(1) == 1) {
            Games.resolved(x, Games.STOP, 0, 0, 0);
        }
        return x;
    }

    private static LayeredCards richWithLife(int player, int n) {
        LayeredCards x = richWithNoPile();
        x.mend(player, n);
        return x;
    }

    private static void thought() {
        refusedOne("dry", VOID, LayeredCards::dry, -1, 4, LOW, HIGH);
        refusedOne("worth", VOID, LayeredCards::worth, -1, Games.RICH_CARDS, 24, Games.RICH_IN_DECK, Games.RICH_ON_PILE,
            Games.RICH_ON_TABLE, Games.RICH_GONE, LOW, HIGH);
        refused("worth, no room", RefusedCalls::fullWithHand, VOID, x -> x.worth(23));
        refused("best, no room", RefusedCalls::fullWithHand, NOT, x -> x.best(0, 0));
        refusedTwo("best", VOID, LayeredCards::best, new int[][] {{-1, 0}, {2, 0}, {0, -1}, {0, 2}});
        refusedOne("byTurns", VOID, LayeredCards::byTurns, -1, 0, 4, LOW, HIGH);
        refusedOne("swing", VOID, LayeredCards::swing, -1, Games.RICH_CARDS, 24, Games.RICH_IN_DECK, Games.RICH_IN_HAND,
            Games.RICH_ON_PILE, Games.RICH_GONE, LOW, HIGH);
        refusedOne("next", BAD, LayeredCards::next, -1, 2, LOW, HIGH);
        refused("next of no deck", RefusedCalls::looping, NOT, x -> x.next(0));
        refusedTwo("ahead", VOID, LayeredCards::ahead, new int[][] {{0, 0}, {10, 0}, {1, -1}, {1, 5}, {LOW, 0}, {HIGH, 0}});
        refusedTwo("trace", BAD, LayeredCards::trace, new int[][] {{-1, 0}, {2, 0}, {0, -1}, {1, -1}, {0, LOW}});
        refusedTwo("trace", NOT, LayeredCards::trace, new int[][] {{0, 3}, {1, 3}, {0, 40}, {1, HIGH}});
        refused("back, no image", RefusedCalls::looping, STATE, LayeredCards::back);
    }

    private static LayeredCards looping() {
        LayeredCards x = Games.looping();
        x.run();
        x.hold(5, 1);
        return x;
    }

    private static void handles() {
        refusedTwo("hold", BAD, LayeredCards::hold, new int[][] {{-1, 0}, {8, 0}, {0, -2}, {0, Games.RICH_CARDS}, {3, 24},
            {8, -1}, {LOW, 0}, {HIGH, 0}, {0, LOW}, {0, HIGH}});
        refusedTwo("tells", BAD, LayeredCards::tells, new int[][] {{-1, 0}, {8, 0}, {0, -1}, {0, 5}});
        refusedTwo("tells", NOTHING_THERE, LayeredCards::tells, new int[][] {{1, 0}, {1, 4}});
        refusedTwo("tells", OTHER_FAMILY, LayeredCards::tells, new int[][] {{0, 1}, {0, 2}, {0, 3}, {7, 4}});
        refusedOne("count", BAD, LayeredCards::count, -1, 9, LOW, HIGH);
    }

    /** Calls that only tell, and all in thought: each with the numbers that it allows. */
    private static void onlyTelling() {
        tells("value", LayeredCards::value, 0, 3);
        tells("layer", LayeredCards::layer, 0, 1);
        tells("pile", LayeredCards::pile, 0, 1);
        tells("ended", LayeredCards::ended, 0, 2);
        tells("dry", LayeredCards::dry, 0, 3);
        tells("worth", LayeredCards::worth, 5, 5);
        tells("worth", LayeredCards::worth, 8, 9);
        tells("best 0", (x, i) -> x.best(0, i), 0, 1);
        tells("best 1", (x, i) -> x.best(1, i), 0, 1);
        tells("byTurns", LayeredCards::byTurns, 1, 3);
        tells("matter", (x, i) -> x.matter(), 0, 0);
        tells("swing", LayeredCards::swing, 0, 4);
        tells("next", LayeredCards::next, 0, 1);
        tells("trace 0", (x, i) -> x.trace(0, i), 0, 2);
        tells("trace 1", (x, i) -> x.trace(1, i), 0, 2);
        tells("count", LayeredCards::count, 0, 8);
        tells("tells", (x, i) -> x.tells(0, i), 0, 4);
        tells("of", (x, i) -> x.of(0, i), 0, 6);
        tells("player", (x, i) -> x.player(0, i), 0, 4);
        tells("depends", (x, i) -> x.depends(i, 1 - i), 0, 1);
        tells("used", (x, i) -> x.used(2105, i), -2, 0);
        tells("hold the same", (x, i) -> x.hold(0, i), 3, 3);
        for (int what = 0; what <= 4; what++) {
            int asked = what;
            changesNothing("ahead(9, " + what + ")", RefusedCalls::aheadOfTurns, x -> x.ahead(9, asked));
        }
    }

    private static void tells(String name, OfOne call, int first, int last) {
        for (int i = first; i <= last; i++) {
            int asked = i;
            changesNothing(name + "(" + i + ")", Games::rich, x -> call.on(x, asked));
        }
    }

    /** TURNS can be taken in thought: each DRAWS, calls a SHADOW, and loses of the HAND. */
    private static LayeredCards aheadOfTurns() {
        LayeredCards x = Games.rich();
        x.back();
        Games.resolved(x, Games.ECHO, 1, 1, 0);
        Games.inHand(x, Games.STRIKE, 0, 0, 0);
        x.base(3, 1);
        checks.due("turns ahead", x.ahead(2, 0), 2);
        return x;
    }

    public static void main(String[] args) {
        theLookSees();
        cards();
        decks();
        values();
        pile();
        thought();
        handles();
        onlyTelling();
        checks.close();
    }
}
