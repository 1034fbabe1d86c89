/** Promises 10 to 13: values, events. */
public final class ValueTests {
    private static final Checks checks = new Checks("ValueTests");
    private static final int ADD = Games.ADD, TIMES = Games.TIMES, SET = Games.SET, LIKE = Games.LIKE,
        MORE = Games.MORE, TWICE = Games.TWICE, AWAY = Games.AWAY, LESS = Games.LESS, TURN = Games.TURN;
    private static final int BAD = Games.BAD, NOT = Games.NOT, VOID = Games.VOID, LOW = Games.LOW, HIGH = Games.HIGH;

    private static void due(String call, long got, long want) {
        checks.due(call, got, want);
    }

    private static void order(LayeredCards x, int... layers) {
        for (int i = 0; i < layers.length; i++) {
            due("layer(" + i + ")", x.layer(i), layers[i]);
        }
        due("no more layers", x.layer(layers.length), NOT);
    }

    private static void eachLayer() {
        LayeredCards x = new LayeredCards();
        Games.resolved(x, ADD, 0, 0, 4);
        due("add", x.value(0), 5);
        Games.resolved(x, TIMES, 1, 0, -3);
        due("times", x.value(0), -15);
        Games.resolved(x, SET, 1, 10, -9);
        due("set", x.value(1), -9);
        Games.resolved(x, LIKE, 1, 23, 5);
        due("like", x.value(2), 7);
        Games.resolved(x, MORE, 0, 23, 5);
        due("more", x.value(2), 14);
        Games.resolved(x, MORE, 0, 33, 5);
        due("more of itself", x.value(3), 14);
        due("like what it is then", x.value(2), 28);
        Games.resolved(x, LIKE, 0, 33, 5);
        due("like itself", x.value(3), 14);
        due("value 0 stays", x.value(0), -15);
        int[] wrong = {-1, 4, LOW, HIGH};
        for (int w : wrong) {
            due("value(" + w + ")", x.value(w), VOID);
        }
    }

    private static void heldWithin() {
        LayeredCards x = new LayeredCards();
        x.base(0, 90);
        Games.resolved(x, TIMES, 0, 0, 9);
        due("held at 99", x.value(0), 99);
        Games.resolved(x, ADD, 0, 0, -9);
        due("held behind each", x.value(0), 90);
        Games.resolved(x, TIMES, 0, 0, -9);
        due("held at -99", x.value(0), -99);
        Games.resolved(x, MORE, 0, 0, 0);
        due("more held at -99", x.value(0), -99);
        Games.resolved(x, ADD, 0, 0, 9);
        Games.resolved(x, ADD, 0, 0, -9);
        Games.resolved(x, ADD, 0, 0, -9);
        due("add held at -99", x.value(0), -99);
        LayeredCards y = new LayeredCards();
        y.base(0, 60);
        Games.resolved(y, MORE, 0, 0, 0);
        due("more held at 99", y.value(0), 99);
        Games.resolved(y, ADD, 0, 0, 1);
        due("add held at 99", y.value(0), 99);
    }

    private static void order() {
        LayeredCards x = new LayeredCards();
        int like = Games.resolved(x, LIKE, 0, 1, 0);
        int add = Games.resolved(x, ADD, 0, 10, 3);
        order(x, add, like);
        int more = Games.resolved(x, MORE, 1, 12, 0);
        int set = Games.resolved(x, SET, 1, 20, 5);
        order(x, add, set, more, like);
        due("value 0", x.value(0), 10);
        int ring = Games.resolved(x, LIKE, 1, 20, 0);
        // 0 like 1, 1 more 2, 2 like 0: the oldest of them breaks the ring
        order(x, add, set, like, ring, more);
        due("ring: value 0", x.value(0), 5);
        due("ring: value 2", x.value(2), 5);
        due("ring: value 1", x.value(1), 10);
        due("layer(-1)", x.layer(-1), BAD);
        due("layer(LOW)", x.layer(LOW), BAD);
        due("layer(HIGH)", x.layer(HIGH), NOT);
        due("layer(24)", x.layer(24), NOT);
    }

    private static void orderOfAlike() {
        LayeredCards x = new LayeredCards();
        int one = x.card(TIMES, 0, 0, 3);
        int two = x.card(ADD, 0, 0, 1);
        x.deal(one);
        x.deal(two);
        x.play(one);
        x.play(two);
        x.run();
        order(x, two, one);
        due("the oldest first, not the least number", x.value(0), 6);
        int twice = Games.resolved(x, TWICE, 0, 0, 0);
        int own = Games.resolved(x, MORE, 0, 0, 0);
        order(x, two, one, own);
        due("depends on none of itself", x.depends(own, own), BAD);
        due("on another of its value", x.depends(own, one), 1);
        due("a replacer is no layer", x.depends(own, twice), BAD);
        // two that look at their own VALUE depend on one another: the oldest goes first
        int again = Games.resolved(x, MORE, 0, 0, 0);
        order(x, two, one, own, again);
        due("own value four times", x.value(0), 24);
        Games.resolved(x, Games.CLEAR, 1, 0, 0);
        order(x, two, one, own);
    }

    private static void orderOfSome() {
        LayeredCards x = new LayeredCards();
        int one = Games.resolved(x, LIKE, 0, 1, 0);
        int two = Games.resolved(x, MORE, 0, 10, 0);
        int set = Games.resolved(x, SET, 0, 20, 5);
        // the youngest is used first, then there is but the ring
        order(x, set, one, two);
        due("like", x.value(0), 2);
        due("more", x.value(1), 4);
        LayeredCards y = new LayeredCards();
        int own = Games.resolved(y, MORE, 0, 0, 0);
        int add = Games.resolved(y, ADD, 0, 0, 3);
        order(y, add, own);
        due("more of its own value behind the other", y.value(0), 8);
        int again = Games.resolved(y, MORE, 0, 0, 0);
        order(y, add, own, again);
    }

    private static void depends() {
        LayeredCards x = new LayeredCards();
        int like = Games.resolved(x, LIKE, 0, 12, 0);
        int more = Games.resolved(x, MORE, 1, 3, 0);
        int add = Games.resolved(x, ADD, 1, 20, 1);
        int set = Games.resolved(x, SET, 1, 30, 1);
        int times = Games.resolved(x, TIMES, 1, 11, 1);
        int[] all = {like, more, add, set, times};
        for (int one : all) {
            for (int other : all) {
                int want = one == other ? BAD : (one == like && other == add) || (one == more && other == set) ? 1 : 0;
                due("depends(" + one + ", " + other + ")", x.depends(one, other), want);
            }
        }
        int hand = Games.inHand(x, ADD, 0, 20, 1);
        int deck = x.card(LIKE, 0, 2, 1);
        int echo = Games.resolved(x, Games.ECHO, 0, 20, 1);
        int[] wrong = {-1, hand, deck, echo, 24, LOW, HIGH, x.count(0)};
        for (int w : wrong) {
            due("depends(like, " + w + ")", x.depends(like, w), BAD);
            due("depends(" + w + ", add)", x.depends(w, add), BAD);
        }
        Games.resolved(x, Games.CLEAR, 0, 0, 0);
        due("times is gone", x.depends(like, times), x.of(times, 5) == 4 ? BAD : 0);
    }

    private static void eachReplacer() {
        LayeredCards x = new LayeredCards();
        int twice = Games.resolved(x, TWICE, 0, 0, 0);
        due("twice", x.used(30, -1), 60);
        due("twice, of whoever", x.used(130, -1), 160);
        due("twice, held at 99", x.used(50, -1), 99);
        due("twice, another type", x.used(1030, -1), 1030);
        due("twice is used", x.used(30, 0), twice);
        due("used once", x.used(30, -2), 1);
        due("not used", x.used(1030, -2), 0);
        int away = Games.resolved(x, AWAY, 1, 10, 0);
        due("away, from its owner", x.used(1105, -1), 1005);
        due("not away, from the other", x.used(1005, -1), 1005);
        due("not away, another type", x.used(2105, -1), 2105);
        due("away is used", x.used(1105, 0), away);
        int less = Games.resolved(x, LESS, 0, 20, 4);
        due("less", x.used(2010, -1), 2006);
        due("less, held at 0", x.used(2003, -1), 2000);
        due("not less, on the other", x.used(2110, -1), 2110);
        due("less is used on 0, too", x.used(2000, 0), less);
        Games.resolved(x, LESS, 1, 20, -9);
        due("more", x.used(2110, -1), 2119);
        due("more, held at 99", x.used(2195, -1), 2199);
        due("more than nothing", x.used(2100, -1), 2109);
        LayeredCards y = new LayeredCards();
        Games.resolved(y, TURN, 0, 2, 0);
        due("turn 0 to 2", y.used(7, -1), 2007);
        due("turn, of whoever", y.used(107, -1), 2107);
        due("turn, another type", y.used(1007, -1), 1007);
        Games.resolved(y, TURN, 0, 13, 0);
        due("turn 1 to 3 modulo 3, then to 2", y.used(1007, -1), 2007);
        due("two used", y.used(1007, -2), 2);
        LayeredCards z = new LayeredCards();
        Games.resolved(z, TWICE, 0, 30, 0);
        Games.resolved(z, TURN, 0, 31, 0);
        Games.resolved(z, AWAY, 0, 30, 0);
        Games.resolved(z, LESS, 0, 30, 1);
        for (int type = 0; type < 3; type++) {
            due("v 3 fits none", z.used(1000 * type + 5, -2), 0);
        }
    }

    private static void manyReplacers() {
        LayeredCards x = new LayeredCards();
        int lessOfTwo = Games.resolved(x, LESS, 0, 10, 2);
        int twice = Games.resolved(x, TWICE, 1, 20, 0);
        int back = Games.resolved(x, TURN, 1, 21, 0);
        int forth = Games.resolved(x, TURN, 1, 12, 0);
        int away = Games.resolved(x, AWAY, 1, 10, 0);
        int[] row = {lessOfTwo, forth, twice, back};
        for (int k = 0; k < row.length; k++) {
            due("used(1010, " + k + ")", x.used(1010, k), row[k]);
        }
        due("used(1010, 4)", x.used(1010, 4), NOT);
        due("used(1010, -2)", x.used(1010, -2), 4);
        due("used(1010, -1)", x.used(1010, -1), 1016);
        // on 1: turned, twice, turned back, then away to 0: an OLDER one fits it only now
        int[] other = {forth, twice, back, away, lessOfTwo};
        for (int k = 0; k < other.length; k++) {
            due("used(1110, " + k + ")", x.used(1110, k), other[k]);
        }
        due("used(1110, -2)", x.used(1110, -2), 5);
        due("used(1110, -1)", x.used(1110, -1), 1018);
        LayeredCards y = new LayeredCards();
        int one = y.card(TWICE, 0, 10, 0);
        int two = y.card(LESS, 0, 10, 1);
        y.deal(one);
        y.deal(two);
        y.play(one);
        y.play(two);
        y.run();
        due("the oldest first, not the least number", y.used(1010, -1), 1018);
        Games.resolved(y, TWICE, 1, 10, 1);
        due("two alike are both used", y.used(1010, -1), 1036);
        due("nothing has happened", y.player(0, 0), 20);
        due("nor is it told", y.trace(1, 0), NOT);
    }

    private static void usedOfWrong() {
        LayeredCards x = new LayeredCards();
        Games.resolved(x, TWICE, 0, 0, 0);
        int[] wrong = {-1, 200, 250, 999, 1200, 1999, 2200, 3000, 10000, -1000, LOW, HIGH};
        for (int tpa : wrong) {
            due("used(" + tpa + ", -1)", x.used(tpa, -1), BAD);
            due("used(" + tpa + ", -2)", x.used(tpa, -2), BAD);
            due("used(" + tpa + ", 5)", x.used(tpa, 5), BAD);
        }
        int[] right = {0, 99, 100, 199, 1000, 1199, 2000, 2199};
        for (int tpa : right) {
            due("used(" + tpa + ", 30)", x.used(tpa, 30), NOT);
            due("used(" + tpa + ", -3)", x.used(tpa, -3), BAD);
        }
        due("used(1000, LOW)", x.used(1000, LOW), BAD);
        due("used(1000, HIGH)", x.used(1000, HIGH), NOT);
        due("used(2199, -1)", x.used(2199, -1), 2199);
        due("used(0, -1)", x.used(0, -1), 0);
        due("on nothing, too", x.used(0, -2), 1);
    }

    public static void main(String[] args) {
        eachLayer();
        heldWithin();
        order();
        orderOfAlike();
        orderOfSome();
        depends();
        eachReplacer();
        manyReplacers();
        usedOfWrong();
        checks.close();
    }
}
