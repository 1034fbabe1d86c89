/** Promise 13, and how EVENTS happen and are heard: each boundary that the terms name has a test of its own. */
public final class EdgesOfEvents {
    private static final Checks checks = new Checks("EdgesOfEvents");
    private static final int TWICE = Games.TWICE, AWAY = Games.AWAY, LESS = Games.LESS, TURN = Games.TURN,
        STRIKE = Games.STRIKE, HEAL = Games.HEAL, FETCH = Games.FETCH, ECHO = Games.ECHO;
    private static final int BAD = Games.BAD, NOT = Games.NOT, LOW = Games.LOW, HIGH = Games.HIGH;

    private static void due(String call, long got, long want) {
        checks.due(call, got, want);
    }

    private static int held(int n, int least, int most) {
        return Math.max(least, Math.min(most, n));
    }

    private static LayeredCards table(int kind, int owner, int vw, int a) {
        LayeredCards x = new LayeredCards();
        Games.resolved(x, kind, owner, vw, a);
        return x;
    }

    /** 13: "1000 times TYPE, 100 times PLAYER, plus AMOUNT, 0 .. 99": TYPES 0 .. 2, PLAYERS 0, 1. */
    private static void usedOnWhat() {
        LayeredCards x = new LayeredCards();
        int calls = 0;
        for (int tpa = -120; tpa <= 3320; tpa++) {
            if (++calls > 500) {
                x = new LayeredCards();
                calls = 1;
            }
            boolean right = tpa >= 0 && tpa / 1000 <= 2 && tpa % 1000 / 100 <= 1;
            due("used(" + tpa + ", -1)", x.used(tpa, -1), right ? tpa : BAD);
        }
        int[] far = {LOW, HIGH, -1000, -1100, 10000, 65536, 1 << 24, -100000};
        for (int tpa : far) {
            due("used(" + tpa + ", -1)", x.used(tpa, -1), BAD);
            due("used(" + tpa + ", -2)", x.used(tpa, -2), BAD);
            due("used(" + tpa + ", 0)", x.used(tpa, 0), BAD);
        }
    }

    /** "what it is (k -1), how many were used (-2), the k-th; NOT: there are not as many. BAD." */
    private static void usedWhich() {
        LayeredCards x = new LayeredCards();
        int[] due = {BAD, BAD, 0, 5, NOT, NOT, NOT};
        for (int k = -4; k <= 2; k++) {
            due("used(5, " + k + ") of none", x.used(5, k), due[k + 4]);
        }
        for (int n = 1; n <= 24; n++) {
            int last = Games.resolved(x, LESS, 0, 0, -1);
            due("how many", x.used(5, -2), n);
            due("the last of them", x.used(5, n - 1), last);
            due("one behind it", x.used(5, n), NOT);
            due("what it is", x.used(5, -1), 5 + n);
        }
        due("used(5, LOW)", x.used(5, LOW), BAD);
        due("used(5, -3)", x.used(5, -3), BAD);
        due("used(5, HIGH)", x.used(5, HIGH), NOT);
        due("used(5, 24)", x.used(5, 24), NOT);
    }

    /** A wrong EVENT is BAD, though k is NOT; a wrong k is BAD of a right EVENT. */
    private static void usedBadAhead() {
        LayeredCards x = new LayeredCards();
        due("used(200, 5)", x.used(200, 5), BAD);
        due("used(3000, 5)", x.used(3000, 5), BAD);
        due("used(0, -3)", x.used(0, -3), BAD);
        due("used(2199, 5)", x.used(2199, 5), NOT);
    }

    /** "TWICE: AMOUNT is twice that", "(held within 0 .. 99)": each AMOUNT. */
    private static void twiceOfEach() {
        LayeredCards x = table(TWICE, 0, 10, 9);
        for (int amount = 0; amount <= 99; amount++) {
            due("twice " + amount, x.used(1000 + amount, -1), 1000 + Math.min(99, 2 * amount));
        }
    }

    /** "LESS: AMOUNT less a (more, if a is below 0)", "(held within 0 .. 99)": each AMOUNT, each a. */
    private static void lessOfEach() {
        for (int a = -9; a <= 9; a++) {
            LayeredCards x = table(LESS, 1, 20, a);
            for (int amount = 0; amount <= 99; amount++) {
                due(amount + " less " + a, x.used(2100 + amount, -1), 2100 + held(amount - a, 0, 99));
            }
        }
    }

    /** "held" behind each: not at the end alone. */
    private static void heldBehindEach() {
        LayeredCards x = table(TWICE, 0, 10, 0);
        Games.resolved(x, LESS, 0, 10, 9);
        due("99, less 9", x.used(1060, -1), 1090);
        LayeredCards y = table(LESS, 0, 10, 9);
        Games.resolved(y, LESS, 0, 10, -9);
        due("0, then 9 more", y.used(1005, -1), 1009);
        due("0, then 9 more", y.used(1009, -1), 1009);
        due("1, then 9 more", y.used(1010, -1), 1010);
    }

    /** "AWAY: on the other PLAYER": from 0 to 1 and from 1 to 0. */
    private static void awayOfEach() {
        due("away from 0", table(AWAY, 0, 10, 9).used(1099, -1), 1199);
        due("away from 1", table(AWAY, 1, 10, 9).used(1100, -1), 1000);
    }

    /** "TURN: TYPE is w modulo 3": w 0 to 3. */
    private static void turnToEach() {
        int[] types = {0, 1, 2, 0};
        for (int w = 0; w <= 3; w++) {
            due("turn by w " + w, table(TURN, 0, 10 + w, 9).used(1042, -1), 1000 * types[w] + 42);
            due("it is used, turn to its own type, too", table(TURN, 0, 10 + w, 9).used(1042, -2), 1);
        }
    }

    /** "FITS: TYPE v" of all, "on its OWNER" of AWAY and LESS alone; "(TYPE v: v 3 FITS none.)" */
    private static void whatFits() {
        for (int kind = 0; kind < 15; kind++) {
            for (int v = 0; v <= 3; v++) {
                for (int owner = 0; owner < 2; owner++) {
                    LayeredCards x = table(kind, owner, 10 * v + 3, 1);
                    for (int event = 0; event < 6; event++) {
                        boolean fits = kind >= TWICE && kind <= TURN && v == event / 2
                            && (kind == TWICE || kind == TURN || owner == event % 2);
                        int tpa = 1000 * (event / 2) + 100 * (event % 2) + 7;
                        due("used(" + tpa + ", -2) of kind " + kind + ", v " + v + ", owner " + owner,
                            x.used(tpa, -2), fits ? 1 : 0);
                    }
                }
            }
        }
    }

    /** "a REPLACER on the TABLE": not in the DECK, the HAND, on the PILE, GONE. */
    private static void replacersOnTheTable() {
        LayeredCards x = Games.eachPlace(TWICE, 0);
        due("how many", x.used(1, -2), 1);
        due("the one on the table", x.used(1, 0), 3);
        Games.resolved(x, Games.CLEAR, 1, 0, 0);
        due("when it is gone", x.used(1, -2), 0);
    }

    /** "and wasn't used on it yet": each once, even if the EVENT comes back to it. */
    private static void eachOnce() {
        LayeredCards x = table(TURN, 0, 1, 0);
        Games.resolved(x, TURN, 0, 10, 0);
        due("turned there and back", x.used(5, -1), 5);
        due("two were used", x.used(5, -2), 2);
        due("back and there", x.used(1005, -1), 1005);
        due("the second first", x.used(1005, 0), 1);
        LayeredCards y = table(AWAY, 0, 10, 0);
        Games.resolved(y, AWAY, 1, 10, 0);
        due("away and back", y.used(1005, -1), 1005);
        due("two were used", y.used(1005, -2), 2);
        LayeredCards z = table(TURN, 0, 0, 0);
        due("turned to what it was", z.used(5, -2), 1);
        LayeredCards w = table(LESS, 0, 0, 0);
        due("less by none", w.used(5, -2), 1);
    }

    /** It is used once on each EVENT: not once for all. */
    private static void onceOnEachEvent() {
        LayeredCards x = table(TWICE, 0, 10, 0);
        due("the first", x.used(1005, -1), 1010);
        due("the second", x.used(1005, -1), 1010);
        Games.resolved(x, STRIKE, 0, 0, 0);
        Games.resolved(x, STRIKE, 0, 0, 0);
        due("two strikes, each twice", x.player(1, 0), 12);
    }

    /** "the OLDEST such is used": by AGE, not by its number; ahead of a YOUNGER one that fits, too. */
    private static void theOldest() {
        LayeredCards x = new LayeredCards();
        int late = x.card(TWICE, 0, 10, 0);
        int early = Games.resolved(x, LESS, 1, 10, 3);
        x.deal(late);
        x.play(late);
        x.resolve();
        due("first", x.used(1110, 0), early);
        due("second", x.used(1110, 1), late);
        due("10 less 3, twice", x.used(1110, -1), 1114);
    }

    /** An OLDER one that fits but now comes ahead of a YOUNGER one that did all the time. */
    private static void olderAhead() {
        LayeredCards x = new LayeredCards();
        int less = Games.resolved(x, LESS, 1, 20, 3);
        int turn = Games.resolved(x, TURN, 0, 12, 0);
        int twice = Games.resolved(x, TWICE, 0, 20, 0);
        int[] row = {turn, less, twice};
        for (int k = 0; k < row.length; k++) {
            due("used(1110, " + k + ")", x.used(1110, k), row[k]);
        }
        due("10 less 3, twice", x.used(1110, -1), 2114);
    }

    /** "HIT: LIFE is AMOUNT less (-99 at least)": of the PLAYER it is on, of each LIFE. */
    private static void hits() {
        int[][] rows = {{20, 0, 20}, {20, 1, 19}, {20, 99, -79}, {0, 99, -99}, {1, 99, -98}, {-1, 99, -99},
            {-98, 1, -99}, {-98, 2, -99}, {-99, 1, -99}, {-99, 0, -99}, {99, 99, 0}, {99, 98, 1}};
        for (int player = 0; player < 2; player++) {
            for (int[] row : rows) {
                LayeredCards x = new LayeredCards();
                x.mend(player, row[0]);
                x.base(1, row[1]);
                Games.resolved(x, STRIKE, 1 - player, 0, 0);
                due("hit " + row[1] + " at life " + row[0], x.player(player, 0), row[2]);
                due("the other one's life", x.player(1 - player, 0), 20);
            }
        }
    }

    /** "MEND: LIFE is AMOUNT more (99 at most)". */
    private static void mends() {
        int[][] rows = {{20, 0, 20}, {20, 1, 21}, {0, 99, 99}, {1, 98, 99}, {1, 99, 99}, {98, 1, 99}, {98, 2, 99},
            {99, 1, 99}, {99, 0, 99}, {-99, 99, 0}, {-99, 98, -1}, {-1, 99, 98}};
        for (int player = 0; player < 2; player++) {
            for (int[] row : rows) {
                LayeredCards x = new LayeredCards();
                x.mend(player, row[0]);
                x.base(2, row[1]);
                Games.resolved(x, HEAL, player, 0, 0);
                due("mend " + row[1] + " at life " + row[0], x.player(player, 0), row[2]);
                due("the other one's life", x.player(1 - player, 0), 20);
            }
        }
    }

    /** "DRAW: AMOUNT times .. none: his LIFE is 1 less (-99 at least)". */
    private static void draws() {
        // LIFE, CARDS in the DECK, AMOUNT: LIFE then, CARDS in the HAND then
        int[][] rows = {{20, 0, 0, 20, 0}, {20, 0, 1, 19, 0}, {20, 0, 99, -79, 0}, {20, 1, 1, 20, 1}, {20, 1, 2, 19, 1},
            {20, 3, 0, 20, 0}, {20, 3, 2, 20, 2}, {20, 3, 3, 20, 3}, {20, 3, 4, 19, 3}, {-98, 0, 1, -99, 0},
            {-98, 0, 2, -99, 0}, {-99, 0, 1, -99, 0}, {-98, 1, 3, -99, 1}, {1, 0, 1, 0, 0}, {0, 2, 1, 0, 1}};
        for (int player = 0; player < 2; player++) {
            for (int[] row : rows) {
                LayeredCards x = new LayeredCards();
                for (int i = 0; i < row[1]; i++) {
                    x.card(HEAL, player, 0, 0);
                }
                x.card(HEAL, 1 - player, 0, 0);
                x.mend(player, row[0]);
                x.base(0, row[2]);
                Games.resolved(x, FETCH, player, 0, 0);
                String told = " of draw " + row[2] + " from " + row[1] + " at life " + row[0];
                due("life" + told, x.player(player, 0), row[3]);
                due("hand" + told, x.player(player, 2), row[4]);
                due("deck" + told, x.player(player, 1), row[1] - row[4]);
                due("the other one's life" + told, x.player(1 - player, 0), 20);
                due("the other one's deck" + told, x.player(1 - player, 1), 1);
            }
        }
    }

    /** "his LIFE is 1 less" of a DRAW of none, and no DRAWN: SEED stays. */
    private static void seedOfDraws() {
        LayeredCards x = new LayeredCards();
        x.base(0, 3);
        x.card(HEAL, 0, 0, 0);
        Games.resolved(x, FETCH, 0, 0, 0);
        due("one drawn, two not: one step", x.seed(1), 1103527590);
        Games.resolved(x, FETCH, 0, 0, 0);
        due("none drawn", x.seed(5), 1);
        x.base(0, 0);
        x.card(HEAL, 0, 0, 0);
        Games.resolved(x, FETCH, 0, 0, 0);
        due("a draw of 0", x.seed(5), 5);
    }

    /** "DRAWN below n: .. its upper 16 bits, no sign, modulo n", "by numbers": each n, SEEDS that wrap around. */
    private static void drawnBelowEach() {
        int[] seeds = {1, 0, -1, 2, 7, 12345, LOW, HIGH, LOW + 1, -1103515245, 305419896, -559038737, 1 << 16, 65535};
        for (int n = 1; n <= 24; n++) {
            LayeredCards x = new LayeredCards();
            for (int i = 0; i < n; i++) {
                x.card(HEAL, 1, 0, 0);
            }
            for (int seed : seeds) {
                x.seed(seed);
                long after = (seed * 1103515245L + 12345L) & 0xffffffffL;
                due("next of " + n + " by seed " + seed, x.next(1), after / 65536 % n);
                due("seed stays", x.seed(0), seed);
            }
        }
    }

    /** The DECK "whose OWNER he is, by numbers": without gaps, whatever lies between. */
    private static void drawnByNumbers() {
        for (int seed = 0; seed < 12; seed++) {
            LayeredCards x = new LayeredCards();
            int[] his = new int[4];
            for (int i = 0; i < 4; i++) {
                x.card(HEAL, 0, 0, 0);
                his[i] = x.card(HEAL, 1, 0, 0);
            }
            x.deal(his[1]);
            int[] left = {his[0], his[2], his[3]};
            long after = (seed * 1103515245L + 12345L) & 0xffffffffL;
            int due = left[(int) (after / 65536 % 3)];
            x.seed(seed);
            due("next", x.next(1), due);
            Games.resolved(x, FETCH, 1, 0, 0);
            due("it is in the hand", x.of(due, 5), 1);
            due("two are in the hand", x.player(1, 2), 2);
            due("two in the deck", x.player(1, 1), 2);
            due("seed then", x.seed(0), (int) after);
        }
    }

    /** An EVENT's AMOUNT is "held within 0 .. 99" ahead of all REPLACERS. */
    private static void amountsAtFirst() {
        // VALUE and a of a STRIKE, HEAL, FETCH: AMOUNT
        int[][] rows = {{0, 0, 0}, {0, -1, 0}, {9, -9, 0}, {8, -9, 0}, {10, -9, 1}, {90, 9, 99}, {91, 9, 99}, {99, 9, 99},
            {99, 0, 99}, {99, -1, 98}, {-99, -9, 0}, {-9, 9, 0}, {-8, 9, 1}};
        int[] kinds = {FETCH, STRIKE, HEAL};
        for (int type = 0; type < 3; type++) {
            for (int[] row : rows) {
                LayeredCards x = new LayeredCards();
                x.base(type, row[0]);
                Games.resolved(x, kinds[type], 0, 0, row[1]);
                due("amount of " + row[0] + " and " + row[1], x.trace(1, 0), 1000 * type + (type == 1 ? 100 : 0) + row[2]);
            }
        }
    }

    private static void heldAheadOfReplacers() {
        LayeredCards x = table(LESS, 1, 10, 9);
        x.base(1, 99);
        Games.resolved(x, STRIKE, 0, 0, 9);
        due("99 less 9", x.trace(1, 0), 1190);
        LayeredCards y = table(LESS, 1, 10, -9);
        y.base(1, -5);
        Games.resolved(y, STRIKE, 0, 0, 0);
        due("0 and 9", y.trace(1, 0), 1109);
    }

    /** "if its AMOUNT is 1 or more": as REPLACED. */
    private static void echoOfHowMuch() {
        for (int amount = 0; amount <= 3; amount++) {
            LayeredCards x = table(ECHO, 0, 12, 0);
            x.base(1, amount);
            Games.resolved(x, STRIKE, 0, 0, 0);
            due("shadows of a hit of " + amount, x.count(1), amount >= 1 ? 1 : 0);
        }
    }

    private static void echoOfReplaced() {
        LayeredCards x = table(ECHO, 0, 12, 0);
        Games.resolved(x, LESS, 1, 10, 2);
        Games.resolved(x, STRIKE, 0, 0, 0);
        due("2 less 2: none", x.count(1), 0);
        Games.resolved(x, STRIKE, 0, 0, 1);
        due("3 less 2: one", x.count(1), 1);
        LayeredCards y = table(ECHO, 0, 12, 0);
        Games.resolved(y, LESS, 1, 10, -1);
        y.base(1, 0);
        Games.resolved(y, STRIKE, 0, 0, 0);
        due("0 and 1: one", y.count(1), 1);
        LayeredCards z = table(ECHO, 0, 12, 0);
        Games.resolved(z, ECHO, 0, 21, 2);
        Games.resolved(z, TURN, 0, 12, 0);
        Games.resolved(z, STRIKE, 0, 0, 0);
        due("a hit turned to a mend: one", z.count(1), 1);
        due("of the echo of mends", z.pile(0), 11102);
    }

    /** A HIT or MEND that changes no LIFE, a DRAW of no CARD is heard all the same. */
    private static void echoOfNothingChanged() {
        LayeredCards x = table(ECHO, 0, 22, 0);
        x.mend(0, 99);
        Games.resolved(x, HEAL, 0, 0, 0);
        due("a mend at 99", x.count(1), 1);
        LayeredCards y = table(ECHO, 0, 12, 0);
        y.mend(1, -99);
        Games.resolved(y, STRIKE, 0, 0, 0);
        due("a hit at -99", y.count(1), 1);
        LayeredCards z = table(ECHO, 0, 2, 0);
        Games.resolved(z, FETCH, 0, 0, 0);
        due("a draw of none", z.count(1), 1);
    }

    /** "with v its TYPE": v 0 to 3, each TYPE. */
    private static void echoOfWhat() {
        int[] kinds = {FETCH, STRIKE, HEAL};
        for (int v = 0; v <= 3; v++) {
            for (int type = 0; type < 3; type++) {
                LayeredCards x = table(ECHO, 0, 10 * v, 0);
                Games.resolved(x, kinds[type], 0, 0, 0);
                due("shadows by v " + v + " of type " + type, x.count(1), v == type ? 1 : 0);
            }
        }
    }

    /** "of each ECHO on the TABLE": of both PLAYERS, none that is elsewhere. */
    private static void echoOfWhere() {
        LayeredCards x = Games.eachPlace(ECHO, 1);
        x.base(0, 1);
        int there = x.count(1);
        Games.resolved(x, FETCH, 0, 0, 0);
        due("of the one on the table", x.count(1), there + 1);
    }

    /** "of TYPE w modulo 3, of AMOUNT a (0, if a is below 0), on the OWNER of the ECHO, if a is odd". */
    private static void everyShadow() {
        for (int a = -9; a <= 9; a++) {
            for (int w = 0; w <= 3; w++) {
                for (int owner = 0; owner < 2; owner++) {
                    LayeredCards x = table(ECHO, owner, 10 + w, a);
                    Games.resolved(x, STRIKE, 0, 0, 0);
                    boolean odd = a % 2 != 0;
                    int due = 10000 + 1000 * (w % 3) + 100 * (odd ? owner : 1 - owner) + Math.max(0, a);
                    due("the shadow by a " + a + ", w " + w + ", owner " + owner, x.pile(0), due);
                }
            }
        }
    }

    /** "the OLDEST first": so the YOUNGEST one's SHADOW is on top. */
    private static void oldestFirst() {
        LayeredCards x = new LayeredCards();
        int late = x.card(ECHO, 0, 12, 7);
        Games.resolved(x, ECHO, 0, 12, 5);
        Games.resolved(x, ECHO, 1, 12, 3);
        x.deal(late);
        x.play(late);
        x.resolve();
        Games.resolved(x, STRIKE, 0, 0, 0);
        int[] row = {12007, 12103, 12005, NOT};
        for (int i = 0; i < row.length; i++) {
            due("pile(" + i + ")", x.pile(i), row[i]);
        }
    }

    /** "(64 things at most are on it: others are lost)": 60 are there, a STRIKE comes and goes, 15 want to come. */
    private static void roomForShadows() {
        LayeredCards x = Games.with60();
        due("60", x.count(1), 60);
        due("a strike", Games.onPile(x, STRIKE, 0, 0, 9), 19);
        due("resolve: 4 of 15", x.resolve(), 64);
        due("64", x.count(1), 64);
        due("the 64th", x.pile(63), 12100);
        due("no 65th", x.pile(64), NOT);
    }

    /** The OLDEST ones' SHADOWS come, those of the others are lost. */
    private static void whichShadowsAreLost() {
        LayeredCards x = new LayeredCards();
        for (int i = 0; i < 15; i++) {
            Games.resolved(x, ECHO, 0, i < 8 ? 12 : 10, i % 8 + 1);
        }
        int[] due = new int[15];
        for (int i = 0; i < 15; i++) {
            int a = i % 8 + 1;
            due[i] = 10000 + (i < 8 ? 2000 : 0) + (a % 2 == 1 ? 0 : 100) + a;
        }
        for (int n = 1; n <= 5; n++) {
            Games.lives(x, 20, 20);
            Games.resolved(x, STRIKE, 0, 0, 0);
            due("things behind strike " + n, x.count(1), Math.min(64, 15 * n));
        }
        for (int i = 0; i < 64; i++) {
            due("thing " + i + " from the bottom", x.pile(63 - i), due[i % 15]);
        }
    }

    /** With 63 on the PILE, of two SHADOWS one comes. */
    private static void oneMoreShadow() {
        LayeredCards x = new LayeredCards();
        Games.resolved(x, ECHO, 0, 11, 2);
        Games.resolved(x, ECHO, 0, 11, 4);
        Games.onPile(x, STRIKE, 0, 0, 0);
        for (int n = 2; n <= 64; n++) {
            Games.lives(x, 99, 99);
            due("one goes, two come", x.resolve(), n);
        }
        Games.lives(x, 99, 99);
        due("the top is the younger one's", x.pile(0), 11104);
        due("one goes, one comes", x.resolve(), 64);
        due("the older one's", x.pile(0), 11102);
    }

    /** An EVENT of a SHADOW is REPLACED, and told so. */
    private static void shadowsAreReplaced() {
        LayeredCards x = table(ECHO, 0, 12, 3);
        Games.resolved(x, TWICE, 1, 20, 0);
        Games.resolved(x, STRIKE, 1, 0, 0);
        due("on the pile as it comes", x.pile(0), 12003);
        x.mend(0, 20);
        due("resolve", x.resolve(), 0);
        due("told on the trace", x.trace(0, 0), 12003);
        due("told replaced", x.trace(1, 0), 2006);
        due("life", x.player(0, 0), 26);
    }

    public static void main(String[] args) {
        usedOnWhat();
        usedWhich();
        usedBadAhead();
        twiceOfEach();
        lessOfEach();
        heldBehindEach();
        awayOfEach();
        turnToEach();
        whatFits();
        replacersOnTheTable();
        eachOnce();
        onceOnEachEvent();
        theOldest();
        olderAhead();
        hits();
        mends();
        draws();
        seedOfDraws();
        drawnBelowEach();
        drawnByNumbers();
        amountsAtFirst();
        heldAheadOfReplacers();
        echoOfHowMuch();
        echoOfReplaced();
        echoOfNothingChanged();
        echoOfWhat();
        echoOfWhere();
        everyShadow();
        oldestFirst();
        roomForShadows();
        whichShadowsAreLost();
        oneMoreShadow();
        shadowsAreReplaced();
        checks.close();
    }
}
