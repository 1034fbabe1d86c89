/** Promises 32 to 34: handles. */
public final class HandleTests {
    private static final Checks checks = new Checks("HandleTests");
    private static final int BAD = Games.BAD, LOW = Games.LOW, HIGH = Games.HIGH;

    private static void due(String call, long got, long want) {
        checks.due(call, got, want);
    }

    private static void hold() {
        LayeredCards x = new LayeredCards();
        int n = x.card(Games.HEAL, 0, 0, 3);
        int other = x.card(Games.ADD, 0, 0, 3);
        for (int handle = 0; handle < 8; handle++) {
            due("hold(" + handle + ", n)", x.hold(handle, handle % 2 == 0 ? n : other), 1);
        }
        due("handle 6", x.tells(6, 0), 110);
        due("handle 7", x.tells(7, 0), 100);
        due("hold another one", x.hold(6, other), 1);
        due("it does", x.tells(6, 0), 100);
        due("the others as before", x.tells(4, 0), 110);
        due("hold nothing", x.hold(6, -1), 1);
        due("it does", x.tells(6, 0), -11);
        LayeredCards y = new LayeredCards();
        y.card(Games.HEAL, 0, 0, 3);
        for (int handle = 0; handle < 8; handle++) {
            due("a handle holds no card by itself", y.tells(handle, 0), -11);
        }
        int[][] wrong = {{-1, 0}, {8, 0}, {0, -2}, {0, 2}, {0, 24}, {LOW, 0}, {HIGH, 0}, {0, LOW}, {0, HIGH}, {8, -1},
            {-1, -1}};
        for (int[] w : wrong) {
            due("hold" + java.util.Arrays.toString(w), x.hold(w[0], w[1]), BAD);
        }
        due("wrong ones change nothing", x.tells(0, 0), 110);
        x.deal(n);
        x.play(n);
        x.run();
        due("a card that is gone is held", x.tells(0, 3), 103);
    }

    private static void tells() {
        // KIND, v and w, a; what it tells as 0 any, 1 LAYER, 2 REPLACER, 3 ANSWER, 4 WATCHER
        int no = -12;
        int[][] rows = {
            {0, 12, 9, 100, 119, no, no, no}, {0, 12, -9, 100, 101, no, no, no}, {1, 33, 9, 101, 190, no, no, no},
            {1, 0, -9, 101, 10, no, no, no}, {1, 0, 0, 101, 100, no, no, no}, {2, 3, -4, 102, 96, no, no, no},
            {2, 3, 4, 102, 104, no, no, no}, {3, 12, 5, 103, 120, no, no, no}, {3, 11, 5, 103, 120, no, no, no},
            {4, 12, 5, 104, 130, no, no, no}, {4, 22, 5, 104, 130, no, no, no}, {5, 30, 5, 105, no, 120, no, no},
            {6, 0, 5, 106, no, 110, no, no}, {7, 0, 5, 107, no, 105, no, no}, {7, 0, -9, 107, no, 119, no, no},
            {7, 0, 9, 107, no, 101, no, no}, {8, 2, 5, 108, no, 110, no, no}, {9, 0, 5, 109, no, no, 105, no},
            {10, 0, -9, 110, no, no, 91, no}, {11, 0, 9, 111, no, no, 109, no}, {12, 0, 1, 112, no, no, 101, no},
            {13, 0, 0, 113, no, no, 100, no}, {14, 0, 5, 114, no, no, no, 100}, {14, 23, 5, 114, no, no, no, 111}};
        LayeredCards x = new LayeredCards();
        for (int i = 0; i < rows.length; i++) {
            int[] row = rows[i];
            x.hold(i % 8, x.card(row[0], i % 2, row[1], row[2]));
            for (int family = 0; family < 5; family++) {
                due("tells of " + java.util.Arrays.toString(row) + " as " + family, x.tells(i % 8, family),
                    row[3 + family]);
            }
            due("no family 5", x.tells(i % 8, 5), BAD);
            due("no family -1", x.tells(i % 8, -1), BAD);
        }
        LayeredCards y = new LayeredCards();
        for (int family = 0; family < 5; family++) {
            due("tells of nothing", y.tells(7, family), -11);
        }
        int[][] wrong = {{-1, 0}, {8, 0}, {0, -1}, {0, 5}, {LOW, 0}, {HIGH, 0}, {0, LOW}, {0, HIGH}};
        for (int[] w : wrong) {
            due("tells" + java.util.Arrays.toString(w), y.tells(w[0], w[1]), BAD);
        }
    }

    private static void count() {
        LayeredCards x = new LayeredCards();
        for (int i = 0; i < 3; i++) {
            Games.resolved(x, Games.ADD, i % 2, 30, 0);
        }
        Games.resolved(x, Games.STOP, 0, 0, 0);
        Games.resolved(x, Games.CLEAR, 1, 0, 0);
        x.card(Games.HEAL, 0, 0, 0);
        x.card(Games.HEAL, 1, 0, 0);
        x.turn();
        x.turn();
        x.turn();
        Games.onPile(x, Games.STOP, 0, 0, 0);
        for (int i = 0; i < 5; i++) {
            x.feed(i);
        }
        int[] is = {8, 1, 2, 3, 5, 3, 3, 1, 0};
        for (int what = 0; what < is.length; what++) {
            due("count(" + what + ")", x.count(what), is[what]);
        }
        x.mend(0, 0);
        due("lost: 0", x.count(8), 1);
        x.mend(1, -4);
        due("lost: both", x.count(8), 3);
        x.mend(0, 1);
        due("lost: 1", x.count(8), 2);
        int[] wrong = {-1, 9, LOW, HIGH};
        for (int w : wrong) {
            due("count(" + w + ")", x.count(w), BAD);
        }
    }

    public static void main(String[] args) {
        hold();
        tells();
        count();
        checks.close();
    }
}
