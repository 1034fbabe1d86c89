/**
 * Promises 17 and 18: RUNS that come near to what was, and miss it by one thing alone, or meet it late: each would
 * end elsewhere if just that thing (a LIFE, the SEED and where CARDS are, the order of the PILE, one thing of it,
 * a SHADOW's TYPE, PLAYER, AMOUNT) were not looked at, or something more were. They were found by trying many games.
 */
public final class LoopRows {
    private static final Checks checks = new Checks("LoopRows");
    private static final int NOT = Games.NOT;

    /**
     * A game: t a CARD on the TABLE (KIND, OWNER, vw, a), d a CARD in the DECK of a PLAYER, p a CARD on the PILE,
     * l the LIVES ahead of the RUN.
     */
    private static LayeredCards game(String told) {
        LayeredCards x = new LayeredCards();
        for (String part : told.split(" ")) {
            String[] numbers = part.substring(1).split(",");
            int[] n = new int[numbers.length];
            for (int i = 0; i < n.length; i++) {
                n[i] = Integer.parseInt(numbers[i]);
            }
            switch (part.charAt(0)) {
                case 't': Games.resolved(x, n[0], n[1], n[2], n[3]); break;
                case 'd': x.card(Games.HEAL, n[0], 33, 0); break;
                case 'p': Games.onPile(x, n[0], n[1], n[2], n[3]); break;
                default: Games.lives(x, n[0], n[1]);
            }
        }
        return x;
    }

    private static void row(String told, int end, int times, int earlier, int between) {
        LayeredCards x = game(told);
        checks.due(told + ": dry(0)", x.dry(0), end);
        checks.due(told + ": dry(1)", x.dry(1), times);
        checks.due(told + ": run()", x.run(), times);
        checks.due(told + ": ended(0)", x.ended(0), end);
        checks.due(told + ": ended(1)", x.ended(1), earlier);
        checks.due(told + ": ended(2)", x.ended(2), between);
    }

    private static void lives() {
        row("t14,1,22,1 p10,1,0,0 l98,5", 2, 95, 94, 1);
        row("t14,0,22,1 p10,0,0,0 l5,98", 2, 95, 94, 1);
        row("t14,1,0,1 d1 p11,0,0,1 l98,5", 1, 7, NOT, NOT);
        row("t14,0,11,1 p9,1,0,0 l50,20", 1, 49, NOT, NOT);
        row("t14,1,22,2 p10,1,0,1 l98,5", 2, 3, 2, 1);
    }

    /** What of both LIVES is together, or their difference, is alike sooner. */
    private static void livesApart() {
        row("t14,1,20,0 t14,1,10,1 t14,0,1,1 p9,1,0,0 p10,1,0,1 l20,5", 1, 16, NOT, NOT);
        row("t14,0,20,1 t14,1,2,1 d1 d1 p10,0,0,0 l20,5", 1, 42, NOT, NOT);
        row("t14,1,11,2 t14,0,10,2 d0 p9,0,0,-1 l99,5", 1, 4, NOT, NOT);
        row("t14,0,12,1 t14,1,21,1 d1 d0 p10,0,0,0 l20,5", 1, 10, NOT, NOT);
    }

    private static void cardsAndSeed() {
        row("t14,0,2,2 t14,1,20,1 d1 d0 p11,0,0,0 l98,98", 2, 6, 4, 2);
        row("t14,1,10,1 t14,0,0,1 d0 p9,1,0,0 l5,99", 1, 6, NOT, NOT);
        row("t14,0,22,2 t14,1,20,1 d0 d1 p10,1,0,1 l5,98", 2, 5, 3, 2);
    }

    private static void howManyThings() {
        row("t14,0,12,2 p9,0,0,-1 p9,1,0,0 l5,99", 0, 4, NOT, NOT);
        row("t14,1,12,0 p9,1,0,1 p9,1,0,1 l99,98", 0, 4, NOT, NOT);
        row("t14,0,22,2 t14,0,22,2 p10,1,0,0 p9,1,0,0 l20,20", 2, 65, 64, 1);
    }

    private static void theTop() {
        row("t14,1,22,-1 t14,0,22,3 p10,1,0,0 l20,5", 0, 128, NOT, NOT);
        row("t14,0,21,1 t14,0,12,3 p9,0,0,-1 l5,98", 2, 96, 94, 2);
        row("t14,0,12,2 t14,1,21,1 p10,1,0,0 l5,20", 2, 159, 157, 2);
    }

    /** The same things in another order. */
    private static void theOrder() {
        row("t14,1,20,1 t14,0,22,2 t14,0,22,3 p10,1,0,1 p10,0,0,1 l98,98", 3, 200, NOT, NOT);
        row("t14,0,20,3 t14,0,22,3 t14,1,21,1 t8,1,12,1 d1 p10,0,0,0 l50,5", 1, 132, NOT, NOT);
        row("t14,0,21,2 t14,1,22,3 t14,0,21,2 p10,1,0,1 p10,1,0,-1 l5,50", 1, 177, NOT, NOT);
    }

    private static void shadowsByType() {
        row("t14,1,20,2 t14,1,2,2 t14,1,10,1 t7,1,0,1 d1 p11,1,0,1 l99,98", 2, 4, 2, 2);
        row("t14,0,2,1 t14,0,20,1 t8,1,12,2 d1 d0 p10,0,0,1 l99,99", 2, 5, 3, 2);
    }

    private static void shadowsByPlayer() {
        row("t14,0,22,2 t14,1,22,2 t14,0,12,2 t6,0,21,-1 d1 d1 p9,0,0,0 l5,50", 2, 66, 65, 1);
        row("t14,1,22,2 t14,0,10,1 t14,0,10,3 t14,0,12,2 d0 d1 p9,1,0,0 l5,99", 2, 51, 50, 1);
    }

    private static void shadowsByAmount() {
        row("t14,1,12,3 t14,1,22,1 t6,1,12,1 p9,0,0,0 l5,99", 2, 3, 2, 1);
        row("t14,0,22,1 t14,1,22,-1 t14,0,12,3 p9,0,0,0 l99,98", 2, 4, 2, 2);
    }

    /** One thing alone, deep in a PILE, is another one: from the top and from the bottom. */
    private static void oneThing() {
        row("t14,1,12,1 t14,1,12,2 t14,0,22,0 t14,1,22,-1 t14,0,12,1 t14,1,22,2 d1 p9,1,0,0 l98,98", 3, 200, NOT, NOT);
        row("t14,1,22,0 t14,1,0,0 t14,1,22,2 t14,1,12,2 t14,0,12,1 t14,0,12,1 d0 p10,1,0,0 p9,1,0,0 p9,0,0,1 l98,5",
            3, 200, NOT, NOT);
        row("t14,1,12,2 t14,1,22,0 t14,1,12,1 t14,0,22,1 t14,1,0,0 t5,0,20,-1 d0 p10,0,0,1 p9,0,0,0 l5,50",
            3, 200, NOT, NOT);
        row("t14,1,0,2 t14,1,20,2 t14,0,2,2 p10,1,0,0 l98,99", 1, 98, NOT, NOT);
        row("t14,1,12,2 t14,1,1,1 t14,1,21,1 t14,0,12,3 p9,0,0,-1 l98,99", 1, 197, NOT, NOT);
        row("t14,0,20,1 t14,0,0,0 t14,0,2,3 d1 d0 p10,0,0,1 l99,98", 0, 192, NOT, NOT);
        row("t14,0,12,2 t14,1,20,0 t14,1,22,2 d0 p10,1,0,1 l99,50", 0, 128, NOT, NOT);
        row("t14,0,22,-1 t14,0,22,3 t14,0,22,1 t14,0,2,3 d1 d0 p10,0,0,-1 p10,0,0,1 l98,98", 3, 200, NOT, NOT);
        row("t14,0,21,-1 t14,1,2,1 t14,0,10,2 t14,0,12,2 t14,1,20,1 t14,1,10,1 d1 p10,0,0,1 p9,1,0,0 l20,99",
            3, 200, NOT, NOT);
    }

    public static void main(String[] args) {
        lives();
        livesApart();
        cardsAndSeed();
        howManyThings();
        theTop();
        theOrder();
        shadowsByType();
        shadowsByPlayer();
        shadowsByAmount();
        oneThing();
        checks.close();
    }
}
