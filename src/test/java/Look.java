import java.util.ArrayList;
import java.util.List;

/**
 * All that calls tell of an object, as a row of answers: what they only tell, what would come in thought, and at
 * last what is told by using it up (SEED, BASES, THE TAPE, THE IMAGE). An object that was looked at is done with:
 * so two objects are compared of which one had a call more.
 */
final class Look {
    private final LayeredCards x;
    private final List<String> rows = new ArrayList<>();

    private Look(LayeredCards x) {
        this.x = x;
    }

    static List<String> at(LayeredCards x) {
        Look look = new Look(x);
        look.counts();
        look.cards();
        look.pileAndTrace();
        look.values();
        look.handles();
        look.thoughts();
        look.usedUp();
        return look.rows;
    }

    /** The first row in which two looks differ, or "" if there is none. */
    static String difference(List<String> one, List<String> other) {
        for (int i = 0; i < Math.max(one.size(), other.size()); i++) {
            String a = i < one.size() ? one.get(i) : "nothing";
            String b = i < other.size() ? other.get(i) : "nothing";
            if (!a.equals(b)) {
                return a + " / " + b;
            }
        }
        return "";
    }

    private int row(String call, int answer) {
        rows.add(call + " = " + answer);
        return answer;
    }

    private void counts() {
        for (int what = 0; what <= 8; what++) {
            row("count(" + what + ")", x.count(what));
        }
        for (int player = 0; player < 2; player++) {
            for (int what = 0; what <= 4; what++) {
                row("player(" + player + ", " + what + ")", x.player(player, what));
            }
        }
    }

    private void cards() {
        for (int n = 0; n < 24; n++) {
            if (row("of(" + n + ", 0)", x.of(n, 0)) < 0) {
                return;
            }
            for (int what = 1; what <= 6; what++) {
                row("of(" + n + ", " + what + ")", x.of(n, what));
            }
        }
    }

    private void pileAndTrace() {
        int i = 0;
        while (row("pile(" + i + ")", x.pile(i)) >= 0 && i < 64) {
            i++;
        }
        for (int which = 0; which < 2; which++) {
            i = 0;
            while (row("trace(" + which + ", " + i + ")", x.trace(which, i)) >= 0 && i < 40) {
                i++;
            }
        }
        for (int what = 0; what <= 2; what++) {
            row("ended(" + what + ")", x.ended(what));
        }
    }

    private void values() {
        for (int value = 0; value < 4; value++) {
            row("value(" + value + ")", x.value(value));
        }
        int i = 0;
        while (row("layer(" + i + ")", x.layer(i)) >= 0 && i < 24) {
            i++;
        }
    }

    private void handles() {
        for (int handle = 0; handle < 8; handle++) {
            row("tells(" + handle + ", 0)", x.tells(handle, 0));
        }
    }

    private void thoughts() {
        for (int what = 0; what < 4; what++) {
            row("dry(" + what + ")", x.dry(what));
        }
        row("next(0)", x.next(0));
        row("next(1)", x.next(1));
        row("best(0, 1)", x.best(0, 1));
        row("best(1, 1)", x.best(1, 1));
    }

    private void usedUp() {
        row("seed(0)", x.seed(0));
        for (int value = 0; value < 4; value++) {
            row("base(" + value + ", 0)", x.base(value, 0));
        }
        row("deck()", x.deck());
        if (row("back()", x.back()) < 0) {
            return;
        }
        for (int n = 0; n < x.count(0); n++) {
            row("back: of(" + n + ", 5)", x.of(n, 5));
        }
        row("back: pile(0)", x.pile(0));
        row("back: seed(0)", x.seed(0));
        for (int player = 0; player < 2; player++) {
            row("back: player(" + player + ", 0)", x.player(player, 0));
        }
        for (int value = 0; value < 4; value++) {
            row("back: base(" + value + ", 0)", x.base(value, 0));
        }
        for (int what = 5; what <= 7; what++) {
            row("back: count(" + what + ")", x.count(what));
        }
    }
}
