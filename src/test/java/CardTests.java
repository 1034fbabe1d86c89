/** Promises 1 to 9: cards. */
public final class CardTests {
    private static final Checks checks = new Checks("CardTests");
    private static final int BAD = Games.BAD, NOT = Games.NOT, FULL = Games.FULL, STATE = Games.STATE,
        VOID = Games.VOID, LOW = Games.LOW, HIGH = Games.HIGH;

    private static void due(String call, long got, long want) {
        checks.due(call, got, want);
    }

    private static void newObject() {
        LayeredCards x = new LayeredCards();
        for (int player = 0; player < 2; player++) {
            due("new: life", x.player(player, 0), 20);
            for (int what = 1; what <= 4; what++) {
                due("new: player's cards " + what, x.player(player, what), 0);
            }
        }
        for (int what = 0; what <= 8; what++) {
            due("new: count(" + what + ")", x.count(what), 0);
        }
        int[] bases = {1, 2, 1, 7};
        for (int value = 0; value < 4; value++) {
            due("new: value " + value, x.value(value), bases[value]);
            due("new: base " + value, x.base(value, 0), bases[value]);
        }
        due("new: ended(0)", x.ended(0), 0);
        due("new: ended(1)", x.ended(1), NOT);
        due("new: ended(2)", x.ended(2), NOT);
        due("new: trace", x.trace(0, 0), NOT);
        due("new: happened", x.trace(1, 0), NOT);
        due("new: back", x.back(), STATE);
        due("new: run", x.run(), 0);
        due("new: resolve", x.resolve(), STATE);
        due("new: pile", x.pile(0), NOT);
        due("new: layer", x.layer(0), NOT);
        for (int handle = 0; handle < 8; handle++) {
            due("new: handle", x.tells(handle, 0), -11);
        }
        due("new: seed", x.seed(5), 1);
        LayeredCards other = new LayeredCards();
        x.card(Games.ADD, 0, 0, 0);
        due("objects are apart", other.count(0), 0);
        due("objects are apart: seed", other.seed(1), 1);
    }

    private static void card() {
        LayeredCards x = new LayeredCards();
        due("card, least", x.card(0, 0, 0, -9), 0);
        due("card, greatest", x.card(14, 1, 33, 9), 1);
        int[][] wrong = {{-1, 0, 0, 0}, {15, 0, 0, 0}, {0, -1, 0, 0}, {0, 2, 0, 0}, {0, 0, -1, 0}, {0, 0, 4, 0},
            {0, 0, 9, 0}, {0, 0, 34, 0}, {0, 0, 40, 0}, {0, 0, -10, 0}, {0, 0, 0, -10}, {0, 0, 0, 10},
            {LOW, 0, 0, 0}, {HIGH, 0, 0, 0}, {0, LOW, 0, 0}, {0, HIGH, 0, 0}, {0, 0, LOW, 0}, {0, 0, HIGH, 0},
            {0, 0, 0, LOW}, {0, 0, 0, HIGH}, {0, 0, 19, 0}, {0, 0, 14, 0}, {0, 0, 29, 0}};
        for (int[] w : wrong) {
            due("card" + java.util.Arrays.toString(w), x.card(w[0], w[1], w[2], w[3]), BAD);
        }
        due("bad ones are no cards", x.count(0), 2);
        due("it is in the deck", x.of(1, 5), 0);
        for (int i = 2; i < 24; i++) {
            due("card " + i, x.card(i % 15, i % 2, 10 * (i % 4) + 3, 0), i);
        }
        due("card full", x.card(0, 0, 0, 0), FULL);
        due("card, bad ahead of full", x.card(15, 0, 0, 0), BAD);
        due("still 24", x.count(0), 24);
        due("the first is as it was", x.of(0, 4), 1);
        due("the last's kind", x.of(23, 0), 8);
        due("the last's v", x.of(23, 2), 3);
        due("the last's w", x.of(23, 3), 3);
    }

    private static void feed() {
        LayeredCards x = new LayeredCards();
        due("feed 0", x.feed(0), 1);
        due("feed 255", x.feed(255), 2);
        int[] wrong = {256, -1, LOW, HIGH};
        for (int letter : wrong) {
            due("feed " + letter, x.feed(letter), BAD);
        }
        due("on the tape", x.count(4), 2);
        for (int i = 3; i <= 120; i++) {
            due("feed " + i, x.feed('a'), i);
        }
        due("feed full", x.feed('a'), FULL);
        due("feed, bad ahead of full", x.feed(256), BAD);
        due("the tape is full", x.count(4), 120);
        due("deck of it", x.deck(), -100);
        due("the tape is empty", x.count(4), 0);
        due("feed again", x.feed('a'), 1);
    }

    private static void deckWords() {
        String[] words = {"add", "times", "set", "like", "more", "twice", "away", "less", "turn", "strike", "heal",
            "fetch", "stop", "clear", "echo"};
        LayeredCards x = new LayeredCards();
        for (int kind = 0; kind < words.length; kind++) {
            String line = words[kind] + " " + kind % 2 + " " + kind % 4 + " " + (3 - kind % 4) + " " + kind % 10;
            due("deck of " + line, Games.deckOf(x, line), 1);
            due("kind of " + line, x.of(kind, 0), kind);
            due("owner of " + line, x.of(kind, 1), kind % 2);
            due("v of " + line, x.of(kind, 2), kind % 4);
            due("w of " + line, x.of(kind, 3), 3 - kind % 4);
            due("a of " + line, x.of(kind, 4), kind % 10 + 10);
            due("place of " + line, x.of(kind, 5), 0);
        }
        due("the tape is empty then", x.count(4), 0);
        LayeredCards y = new LayeredCards();
        due("deck of many", Games.deckOf(y, "twice 1 3 0 9;away 0 0 3 -9;echo 1 1 1 0"), 3);
        due("the second of them", y.of(1, 0), Games.AWAY);
        due("its a", y.of(1, 4), 1);
        due("the third's owner", y.of(2, 1), 1);
    }

    private static void deckFaults() {
        LayeredCards x = new LayeredCards();
        String whole = "strike 0 1 2 -3";
        for (int n = 0; n < whole.length(); n++) {
            due("deck ends too early at " + n, Games.deckOf(x, whole.substring(0, n)), -100 - n);
        }
        // the place of each fault stands ahead of its text
        String[] texts = {"0 add 0 0 0 1", "0Add 0 0 0 1", "2ade 0 0 0 1", "3add0 0 0 0 1", "4add  0 0 0 1",
            "3adds 0 0 0 1", "7strike 2 0 0 1", "9strike 0 4 0 1", "bstrike 0 0 4 1", "dstrike 0 0 0 x",
            "estrike 0 0 0 --1", "estrike 0 0 0 1 ", "estrike 0 0 0 10", "fstrike 0 0 0 1;;",
            "fstrike 0 0 0 1; add", "dstrike 0 0 0 +1", "8strike 00 0 0 1", "7strike -0 0 0 1", "2stx",
            "3str ", "2tuw", "2twx", "1s ", "cecho 1 3 3 9:", "eecho 1 3 3 9;e ", "3add\t0", "badd 0 0 0 -;",
            "5add 0;0", "0;add 0 0 0 1", "3lest", "3mora", "4clean", "3hear", "4fetcH", "4echoo", "4turna", "3sete",
            "4liked", "4time ", "6add 0 /", "6add 0 :", "8add 0 0 4", "aadd 0 0 0 :", "aadd 0 0 0 /", "5add 1-0",
            "5add 0", "7add 0 0", "9add 0 0 0", "aadd 0 0 0 ", "badd 0 0 0 -"};
        for (String t : texts) {
            x = new LayeredCards();
            int fault = Character.digit(t.charAt(0), 16);
            due("deck of '" + t.substring(1) + "'", Games.deckOf(x, t.substring(1)), -100 - fault);
            due("the tape is empty behind a fault", x.count(4), 0);
            due("no cards by a fault", x.count(0), 0);
        }
        due("deck ends behind a ;", Games.deckOf(x, "add 0 0 0 1;"), -112);
        due("deck of nothing", x.deck(), -100);
        x.feed(255);
        due("deck of 255", x.deck(), -100);
        due("no cards by faults", x.count(0), 0);
        LayeredCards y = new LayeredCards();
        due("fault at 119", Games.deckOf(y, "add 0 0 0 1;".repeat(9) + "add 0 0 0 1x"), -219);
        due("fault at 120", Games.deckOf(y, "add 0 0 0 1;".repeat(10)), -220);
        due("no cards by late faults", y.count(0), 0);
    }

    private static void deckRoom() {
        LayeredCards x = new LayeredCards();
        String ten = "add 0 0 0 1;".repeat(9) + "echo 1 3 0 9";
        due("deck of ten", Games.deckOf(x, ten), 10);
        due("the tenth", x.of(9, 0), Games.ECHO);
        due("minus nothing", Games.deckOf(x, "set 1 0 0 -0"), 1);
        due("a of minus nothing", x.of(10, 4), 10);
        due("minus nine", Games.deckOf(x, "set 1 0 0 -9"), 1);
        due("a of minus nine", x.of(11, 4), 1);
        due("ten more", Games.deckOf(x, ten), 10);
        due("three have no room", Games.deckOf(x, "add 0 0 0 1;add 0 0 0 1;add 0 0 0 1"), FULL);
        due("none of them came", x.count(0), 22);
        due("the tape is empty when full, too", x.count(4), 0);
        LayeredCards y = new LayeredCards();
        for (int i = 0; i < 22; i++) {
            y.card(0, 0, 0, 0);
        }
        due("a fault is looked at first", Games.deckOf(y, "add 0 0 0 1;add 0 0 0 1;add 0 0 0 1;adx"), -138);
        due("two have room", Games.deckOf(y, "add 0 0 0 1;stop 1 2 3 4"), 2);
        due("none has", Games.deckOf(y, "add 0 0 0 1"), FULL);
        due("a fault, though full", Games.deckOf(y, "add 0 0 0"), -109);
        due("all", y.count(0), 24);
        due("the last's kind", y.of(23, 0), Games.STOP);
    }

    private static void of() {
        LayeredCards x = new LayeredCards();
        int n = x.card(Games.FETCH, 1, 23, -9);
        int[] is = {Games.FETCH, 1, 2, 3, 1, 0, NOT};
        for (int what = 0; what < is.length; what++) {
            due("of(n, " + what + ")", x.of(n, what), is[what]);
        }
        x.deal(n);
        due("of: hand", x.of(n, 5), 1);
        x.play(n);
        due("of: pile", x.of(n, 5), 2);
        x.resolve();
        due("of: gone", x.of(n, 5), 4);
        int first = Games.resolved(x, Games.SET, 0, 0, 9);
        int second = Games.resolved(x, Games.ECHO, 0, 0, 0);
        due("of: table", x.of(first, 5), 3);
        due("of: age", x.of(first, 6), 0);
        due("of: next age", x.of(second, 6), 1);
        Games.resolved(x, Games.CLEAR, 1, 0, 0);
        due("cleared: gone", x.of(second, 5), 4);
        due("cleared: no age", x.of(second, 6), NOT);
        due("an age stays", x.of(first, 6), 0);
        due("ages go on", x.of(Games.resolved(x, Games.TWICE, 0, 0, 0), 6), 2);
        int[][] wrong = {{-1, 0}, {24, 0}, {0, -1}, {0, 7}, {LOW, 0}, {HIGH, 0}, {0, LOW}, {0, HIGH}, {x.count(0), 0},
            {-1, 6}};
        for (int[] w : wrong) {
            due("of" + java.util.Arrays.toString(w), x.of(w[0], w[1]), BAD);
        }
    }

    private static void deal() {
        LayeredCards x = new LayeredCards();
        int n = x.card(Games.HEAL, 1, 0, 1);
        int other = x.card(Games.HEAL, 0, 0, 1);
        due("deal", x.deal(n), 1);
        due("it is in the hand", x.of(n, 5), 1);
        due("in its owner's", x.player(1, 2), 1);
        due("the other one stays", x.of(other, 5), 0);
        due("deal again", x.deal(n), STATE);
        x.play(n);
        due("deal from the pile", x.deal(n), STATE);
        x.resolve();
        due("deal from gone", x.deal(n), STATE);
        int laid = Games.resolved(x, Games.ADD, 0, 0, 0);
        due("deal from the table", x.deal(laid), STATE);
        due("it stays there", x.of(laid, 5), 3);
        int[] wrong = {-1, 3, 24, LOW, HIGH};
        for (int w : wrong) {
            due("deal(" + w + ")", x.deal(w), BAD);
        }
        due("seed is as it was", x.seed(1), 1);
    }

    private static void base() {
        LayeredCards x = new LayeredCards();
        due("base(0, 5)", x.base(0, 5), 1);
        due("base(0, -99)", x.base(0, -99), 5);
        due("base(0, 99)", x.base(0, 99), -99);
        due("base(3, 1)", x.base(3, 1), 7);
        int[][] wrong = {{-1, 0}, {4, 0}, {0, 100}, {0, -100}, {LOW, 0}, {HIGH, 0}, {0, LOW}, {0, HIGH}};
        for (int[] w : wrong) {
            due("base" + java.util.Arrays.toString(w), x.base(w[0], w[1]), VOID);
        }
        due("wrong ones change nothing", x.base(0, 0), 99);
        due("the value follows", x.value(3), 1);
        Games.resolved(x, Games.ADD, 0, 30, 4);
        due("base is not the value", x.base(3, 2), 1);
        due("the value is layered", x.value(3), 6);
    }

    private static void mend() {
        LayeredCards x = new LayeredCards();
        due("mend(0, 5)", x.mend(0, 5), 20);
        due("mend(0, -99)", x.mend(0, -99), 5);
        due("mend(0, 99)", x.mend(0, 99), -99);
        due("mend(1, 0)", x.mend(1, 0), 20);
        int[][] wrong = {{-1, 0}, {2, 0}, {0, 100}, {0, -100}, {LOW, 0}, {HIGH, 0}, {0, LOW}, {0, HIGH}};
        for (int[] w : wrong) {
            due("mend" + java.util.Arrays.toString(w), x.mend(w[0], w[1]), VOID);
        }
        due("life of 0", x.player(0, 0), 99);
        due("life of 1", x.player(1, 0), 0);
        due("it is no event", x.trace(1, 0), NOT);
    }

    private static void player() {
        LayeredCards x = new LayeredCards();
        int[] kinds = {Games.ADD, Games.ECHO, Games.TWICE};
        for (int kind : kinds) {
            Games.resolved(x, kind, 1, 33, 0);
        }
        Games.resolved(x, Games.SET, 0, 33, 0);
        Games.resolved(x, Games.STOP, 0, 0, 0);
        Games.resolved(x, Games.STOP, 0, 0, 0);
        for (int i = 0; i < 4; i++) {
            x.card(Games.HEAL, 0, 0, 0);
        }
        x.card(Games.HEAL, 1, 0, 0);
        for (int i = 0; i < 5; i++) {
            Games.inHand(x, Games.HEAL, 1, 0, 0);
        }
        Games.onPile(x, Games.HEAL, 0, 0, 0);
        int[] zero = {20, 4, 0, 1, 2};
        int[] one = {20, 1, 5, 3, 0};
        for (int what = 0; what < 5; what++) {
            due("player(0, " + what + ")", x.player(0, what), zero[what]);
            due("player(1, " + what + ")", x.player(1, what), one[what]);
        }
        int[][] wrong = {{-1, 0}, {2, 0}, {0, -1}, {0, 5}, {LOW, 0}, {HIGH, 0}, {0, LOW}, {0, HIGH}};
        for (int[] w : wrong) {
            due("player" + java.util.Arrays.toString(w), x.player(w[0], w[1]), VOID);
        }
    }

    public static void main(String[] args) {
        newObject();
        card();
        feed();
        deckWords();
        deckFaults();
        deckRoom();
        of();
        deal();
        base();
        mend();
        player();
        checks.close();
    }
}
