/** Promises 1, 2 and 5 to 9: each boundary that a sentence of the document names has a test of its own. */
public final class EdgesOfCards {
    private static final Checks checks = new Checks("EdgesOfCards");
    private static final int BAD = Games.BAD, NOT = Games.NOT, FULL = Games.FULL, STATE = Games.STATE,
        VOID = Games.VOID, LOW = Games.LOW, HIGH = Games.HIGH;

    /** Far numbers, and those that are right ones in their last 8 or 16 bits or but for their sign. */
    private static final int[] FAR = {LOW, HIGH, LOW + 1, 256, 257, -256, -255, 65536, 65537, -65536, 1 << 24, -100000};

    private static void due(String call, long got, long want) {
        checks.due(call, got, want);
    }

    /** 1: "No CARDS; both PLAYERS have 20." */
    private static void newLives() {
        due("life of 0", new LayeredCards().player(0, 0), 20);
        due("life of 1", new LayeredCards().player(1, 0), 20);
    }

    private static void newHasNoCards() {
        LayeredCards x = new LayeredCards();
        due("cards", x.count(0), 0);
        due("card 0", x.of(0, 0), BAD);
        for (int player = 0; player < 2; player++) {
            for (int what = 1; what <= 4; what++) {
                due("cards of " + player + " in " + what, x.player(player, what), 0);
            }
        }
    }

    /** "(0 at first)", "(1, 2, 1, 7 at first)" and all the rest that is told of the first state. */
    private static void newIsAsAtFirst() {
        LayeredCards x = new LayeredCards();
        due("clock", x.count(5), 0);
        due("turns", x.count(6), 0);
        due("active", x.count(7), 0);
        due("lost", x.count(8), 0);
        due("on the pile", x.count(1), 0);
        due("on the tape", x.count(4), 0);
        due("ended", x.ended(0), 0);
        due("the earlier one", x.ended(1), NOT);
        due("between", x.ended(2), NOT);
        due("no image", x.back(), STATE);
        due("seed", x.seed(0), 1);
        int[] bases = {1, 2, 1, 7};
        for (int value = 0; value < 4; value++) {
            due("value " + value, x.value(value), bases[value]);
            due("base " + value, x.base(value, 0), bases[value]);
        }
        for (int handle = 0; handle < 8; handle++) {
            due("handle " + handle, x.tells(handle, 0), -11);
        }
    }

    /** "cards of fifteen kinds": KINDS 0 to 14. */
    private static void kinds() {
        for (int kind = -3; kind <= 20; kind++) {
            LayeredCards x = new LayeredCards();
            boolean right = kind >= 0 && kind <= 14;
            due("card of kind " + kind, x.card(kind, 0, 0, 0), right ? 0 : BAD);
            due("cards", x.count(0), right ? 1 : 0);
            due("its kind", x.of(0, 0), right ? kind : BAD);
        }
        for (int far : FAR) {
            due("card of kind " + far, new LayeredCards().card(far, 0, 0, 0), BAD);
        }
    }

    /** "an OWNER (0, 1)". */
    private static void owners() {
        for (int owner = -3; owner <= 4; owner++) {
            LayeredCards x = new LayeredCards();
            boolean right = owner == 0 || owner == 1;
            due("card of owner " + owner, x.card(9, owner, 0, 0), right ? 0 : BAD);
            due("cards", x.count(0), right ? 1 : 0);
            due("its owner", x.of(0, 1), right ? owner : BAD);
        }
        for (int far : FAR) {
            due("card of owner " + far, new LayeredCards().card(0, far, 0, 0), BAD);
        }
    }

    /** "v (0 .. 3), w (0 .. 3)", "vw: 10 times v, plus w". */
    private static void pairs() {
        for (int vw = -60; vw <= 160; vw++) {
            LayeredCards x = new LayeredCards();
            boolean right = vw >= 0 && vw / 10 <= 3 && vw % 10 <= 3;
            due("card of vw " + vw, x.card(0, 0, vw, 0), right ? 0 : BAD);
            due("cards", x.count(0), right ? 1 : 0);
            due("its v", x.of(0, 2), right ? vw / 10 : BAD);
            due("its w", x.of(0, 3), right ? vw % 10 : BAD);
        }
        for (int far : FAR) {
            due("card of vw " + far, new LayeredCards().card(0, 0, far, 0), BAD);
        }
    }

    /** "a (-9 .. 9)", told as "a plus 10". */
    private static void numbers() {
        for (int a = -25; a <= 25; a++) {
            LayeredCards x = new LayeredCards();
            boolean right = a >= -9 && a <= 9;
            due("card of a " + a, x.card(0, 0, 0, a), right ? 0 : BAD);
            due("cards", x.count(0), right ? 1 : 0);
            due("its a plus 10", x.of(0, 4), right ? a + 10 : BAD);
        }
        for (int far : FAR) {
            due("card of a " + far, new LayeredCards().card(0, 0, 0, far), BAD);
        }
    }

    /** "CARDS 0 .. 23, as they come"; "FULL: 24". */
    private static void roomForCards() {
        LayeredCards x = new LayeredCards();
        for (int n = 0; n < 24; n++) {
            due("the number of card " + n, x.card(n % 15, n % 2, 0, 0), n);
        }
        due("the 24th is there", x.of(23, 0), 8);
        due("a 25th", x.card(0, 0, 0, 0), FULL);
        due("there are 24", x.count(0), 24);
        due("there is no 24", x.of(24, 0), BAD);
        due("again", x.card(0, 0, 0, 0), FULL);
    }

    /** "of several BAD ahead": of the CARD's numbers, when there is no room. */
    private static void badAheadOfFull() {
        LayeredCards x = Games.withCards(24);
        due("kind", x.card(-1, 0, 0, 0), BAD);
        due("owner", x.card(0, 2, 0, 0), BAD);
        due("vw", x.card(0, 0, 4, 0), BAD);
        due("a", x.card(0, 0, 0, 10), BAD);
    }

    private static void badTakesNoNumber() {
        LayeredCards x = Games.withCards(22);
        x.card(15, 0, 0, 0);
        x.card(0, 0, 0, 10);
        due("the 23rd", x.card(0, 0, 0, 0), 22);
        x.card(0, 2, 0, 0);
        due("the 24th", x.card(0, 0, 0, 0), 23);
    }

    /** "in one place: 0 DECK (at first)": in that of its OWNER, whatever KIND it is. */
    private static void firstPlace() {
        for (int kind = 0; kind < 15; kind++) {
            LayeredCards x = new LayeredCards();
            x.card(kind, 1, 0, 0);
            due("place of kind " + kind, x.of(0, 5), 0);
            due("its owner's deck", x.player(1, 1), 1);
            due("not the other one's", x.player(0, 1), 0);
        }
    }

    /** 5: "BAD": no such CARD. */
    private static void ofWhichCard() {
        LayeredCards x = Games.withCards(3);
        for (int n = -2; n <= 5; n++) {
            due("of(" + n + ", 0)", x.of(n, 0), n >= 0 && n < 3 ? Games.HEAL : BAD);
            due("of(" + n + ", 6)", x.of(n, 6), n >= 0 && n < 3 ? NOT : BAD);
        }
        LayeredCards full = Games.withCards(24);
        due("of(23, 0)", full.of(23, 0), Games.HEAL);
        due("of(24, 0)", full.of(24, 0), BAD);
        for (int far : FAR) {
            due("of(" + far + ", 0)", full.of(far, 0), BAD);
        }
    }

    private static void ofWhat() {
        LayeredCards x = new LayeredCards();
        x.card(Games.FETCH, 1, 23, -9);
        int[] due = {BAD, BAD, Games.FETCH, 1, 2, 3, 1, 0, NOT, BAD, BAD};
        for (int what = -2; what <= 8; what++) {
            due("of(0, " + what + ")", x.of(0, what), due[what + 2]);
        }
        for (int far : FAR) {
            due("of(0, " + far + ")", x.of(0, far), BAD);
        }
    }

    /** "where it is (5), AGE (6; NOT: it isn't on the TABLE)": each place. */
    private static void placesAndAges() {
        LayeredCards x = Games.eachPlace(Games.TWICE, 0);
        int[] ages = {NOT, NOT, NOT, 0, NOT};
        for (int place = 0; place < 5; place++) {
            due("where " + place + " is", x.of(place, 5), place);
            due("age in place " + place, x.of(place, 6), ages[place]);
        }
    }

    /** "an AGE: CLOCK (0 at first), which is 1 more then": by all that come to the TABLE, by none else. */
    private static void clock() {
        for (int kind = 0; kind < 15; kind++) {
            LayeredCards x = new LayeredCards();
            Games.resolved(x, Games.SET, 1, 33, 0);
            int n = Games.resolved(x, kind, 0, 33, 0);
            boolean laid = kind < 9 || kind == 14;
            due("age of kind " + kind, x.of(n, 6), laid ? 1 : NOT);
            due("place of kind " + kind, x.of(n, 5), laid ? 3 : 4);
            due("clock behind kind " + kind, x.count(5), laid ? 2 : 1);
        }
    }

    private static void clockGoesOnBehindOneGone() {
        LayeredCards x = new LayeredCards();
        int first = Games.resolved(x, Games.ADD, 0, 33, 0);
        Games.resolved(x, Games.CLEAR, 1, 0, 0);
        due("gone", x.of(first, 5), 4);
        due("it has no age", x.of(first, 6), NOT);
        due("clock", x.count(5), 1);
        due("the next one's age", x.of(Games.resolved(x, Games.ADD, 0, 33, 0), 6), 1);
    }

    /** 6: "A CARD in a DECK comes to its OWNER's HAND: 1. BAD; STATE: it is elsewhere." */
    private static void dealWhich() {
        LayeredCards x = Games.withCards(3);
        due("deal(-1)", x.deal(-1), BAD);
        due("deal(3)", x.deal(3), BAD);
        due("deal(24)", x.deal(24), BAD);
        due("deal(2)", x.deal(2), 1);
        due("deal(0)", x.deal(0), 1);
        due("in the hand of 0", x.player(0, 2), 2);
        due("card 1 stays", x.of(1, 5), 0);
        LayeredCards full = Games.withCards(24);
        due("deal(23)", full.deal(23), 1);
        due("in the hand of 1", full.player(1, 2), 1);
        for (int far : FAR) {
            due("deal(" + far + ")", full.deal(far), BAD);
        }
    }

    private static void dealFromElsewhere() {
        for (int place = 1; place < 5; place++) {
            LayeredCards x = Games.eachPlace(Games.ECHO, 1);
            due("deal from place " + place, x.deal(place), STATE);
            due("it stays", x.of(place, 5), place);
        }
        LayeredCards x = Games.eachPlace(Games.ECHO, 1);
        due("deal from the deck", x.deal(0), 1);
        due("it is in the hand", x.of(0, 5), 1);
    }

    /** 7: "BASE (-99 .. 99)"; "what it was. VOID: BAD." */
    private static void baseHowMuch() {
        LayeredCards x = new LayeredCards();
        int was = 1;
        for (int n = -110; n <= 110; n++) {
            boolean right = n >= -99 && n <= 99;
            due("base(0, " + n + ")", x.base(0, n), right ? was : VOID);
            was = right ? n : was;
        }
        due("the base is the last right one", x.base(0, 0), 99);
        for (int far : FAR) {
            due("base(0, " + far + ")", x.base(0, far), VOID);
        }
        due("it stays", x.base(0, 0), 0);
    }

    private static void baseOfWhich() {
        LayeredCards x = new LayeredCards();
        int[] bases = {VOID, VOID, 1, 2, 1, 7, VOID, VOID};
        for (int value = -2; value < 6; value++) {
            due("base(" + value + ", 5)", x.base(value, 5), bases[value + 2]);
        }
        for (int value = 0; value < 4; value++) {
            due("base of " + value, x.base(value, 5), 5);
        }
        for (int far : FAR) {
            due("base(" + far + ", 6)", x.base(far, 6), VOID);
        }
    }

    /** What base() answers is the BASE, not THE VALUE. */
    private static void baseIsNotTheValue() {
        LayeredCards x = new LayeredCards();
        Games.resolved(x, Games.ADD, 0, 0, 9);
        due("what it was", x.base(0, 99), 1);
        due("what it was then", x.base(0, -99), 99);
        due("the value", x.value(0), -90);
    }

    /** 8: "LIFE of a PLAYER becomes n (-99 .. 99): what it was. VOID: BAD." */
    private static void mendHowMuch() {
        for (int player = 0; player < 2; player++) {
            LayeredCards x = new LayeredCards();
            int was = 20;
            for (int n = -110; n <= 110; n++) {
                boolean right = n >= -99 && n <= 99;
                due("mend(" + player + ", " + n + ")", x.mend(player, n), right ? was : VOID);
                was = right ? n : was;
            }
            due("the life is the last right one", x.player(player, 0), 99);
            for (int far : FAR) {
                due("mend(" + player + ", " + far + ")", x.mend(player, far), VOID);
            }
            due("it stays", x.player(player, 0), 99);
            due("the other one's life", x.player(1 - player, 0), 20);
        }
    }

    private static void mendWhom() {
        LayeredCards x = new LayeredCards();
        due("mend(-1, 5)", x.mend(-1, 5), VOID);
        due("mend(2, 5)", x.mend(2, 5), VOID);
        for (int far : FAR) {
            due("mend(" + far + ", 5)", x.mend(far, 5), VOID);
        }
        due("life of 0", x.mend(0, 5), 20);
        due("life of 1", x.mend(1, 5), 20);
    }

    /** mend() is no EVENT: no ECHO hears it, none is told. */
    private static void mendIsNoEvent() {
        LayeredCards x = new LayeredCards();
        Games.resolved(x, Games.ECHO, 0, 22, 1);
        Games.resolved(x, Games.TWICE, 0, 20, 1);
        x.mend(0, 30);
        due("no shadow", x.count(1), 0);
        due("none is told", x.trace(1, 0), NOT);
        due("it is not replaced", x.player(0, 0), 30);
    }

    /** 9: "LIFE (what 0), CARDS in his DECK (1), his HAND (2), of his on the TABLE (3), GONE (4). VOID: BAD." */
    private static void playerWhat() {
        LayeredCards x = Games.eachPlace(Games.LESS, 1);
        x.card(0, 1, 0, 0);
        int[] due = {VOID, VOID, 20, 2, 1, 1, 1, VOID, VOID};
        for (int what = -2; what <= 6; what++) {
            due("player(1, " + what + ")", x.player(1, what), due[what + 2]);
        }
        for (int far : FAR) {
            due("player(1, " + far + ")", x.player(1, far), VOID);
        }
    }

    private static void playerWhom() {
        LayeredCards x = Games.eachPlace(Games.LESS, 1);
        for (int what = 0; what <= 4; what++) {
            due("player(-1, " + what + ")", x.player(-1, what), VOID);
            due("player(2, " + what + ")", x.player(2, what), VOID);
            due("player(0, " + what + ")", x.player(0, what), what == 0 ? 20 : 0);
        }
        for (int far : FAR) {
            due("player(" + far + ", 0)", x.player(far, 0), VOID);
        }
    }

    /** All CARDS may be in one place. */
    private static void playerHasAll() {
        LayeredCards x = new LayeredCards();
        for (int n = 0; n < 24; n++) {
            x.card(Games.HEAL, 0, 0, 0);
        }
        due("24 in his deck", x.player(0, 1), 24);
        for (int n = 0; n < 24; n++) {
            x.deal(n);
        }
        due("none in his deck", x.player(0, 1), 0);
        due("24 in his hand", x.player(0, 2), 24);
        for (int n = 0; n < 24; n++) {
            x.play(n);
        }
        due("none in his hand", x.player(0, 2), 0);
        x.run();
        due("24 gone", x.player(0, 4), 24);
        LayeredCards y = new LayeredCards();
        for (int n = 0; n < 24; n++) {
            Games.resolved(y, Games.ECHO, 1, 33, 0);
        }
        due("24 on the table", y.player(1, 3), 24);
        due("in all", y.count(2), 24);
        due("the last one's age", y.of(23, 6), 23);
        due("clock", y.count(5), 24);
    }

    public static void main(String[] args) {
        newLives();
        newHasNoCards();
        newIsAsAtFirst();
        kinds();
        owners();
        pairs();
        numbers();
        roomForCards();
        badAheadOfFull();
        badTakesNoNumber();
        firstPlace();
        ofWhichCard();
        ofWhat();
        placesAndAges();
        clock();
        clockGoesOnBehindOneGone();
        dealWhich();
        dealFromElsewhere();
        baseHowMuch();
        baseOfWhich();
        baseIsNotTheValue();
        mendHowMuch();
        mendWhom();
        mendIsNoEvent();
        playerWhat();
        playerWhom();
        playerHasAll();
        checks.close();
    }
}
