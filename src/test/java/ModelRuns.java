/** Long made-up runs of calls, each held against Model. The runs are the same each time. */
public final class ModelRuns {
    private static final int RUNS = 1500, CALLS = 500;
    private static final Checks checks = new Checks("ModelRuns");

    private static long state;

    /** A number from 0 to n - 1, of a row that is always the same. */
    private static int below(int n) {
        state = state * 6364136223846793005L + 1442695040888963407L;
        return (int) ((state >>> 33) % n);
    }

    private static int oneOf(int... choices) {
        return choices[below(choices.length)];
    }

    private LayeredCards x = new LayeredCards();
    private Model m = new Model();
    private final int run;
    private int calls = 0;
    private final int mood;

    private ModelRuns(int run) {
        this.run = run;
        mood = run % 7;
    }

    private void same(String call, int got, int want) {
        calls++;
        checks.due("run " + run + ", call " + calls + ", " + call, got, want);
    }

    private boolean goesOn() {
        return calls < CALLS;
    }

    private int anyCard() {
        return below(12) == 0 ? oneOf(-2, -1, 24, 25, 1000) : below(Math.max(1, m.now.cards.size() + 1));
    }

    private int cardIn(Model.Place place) {
        java.util.List<Integer> found = new java.util.ArrayList<>();
        for (Model.Card c : m.now.cards) {
            if (c.place == place) {
                found.add(c.number);
            }
        }
        return found.isEmpty() || below(15) == 0 ? anyCard() : found.get(below(found.size()));
    }

    private int player() {
        return below(20) == 0 ? oneOf(-1, 2, 7) : below(2);
    }

    private void newCard() {
        int kind = below(15);
        int a = below(19) - 9;
        int vw = 10 * below(4) + below(4);
        if (mood == 1 || mood == 5) {
            // shadows that call for each other
            kind = oneOf(14, 14, 14, 9, 10, 11, 5, 7, 8, kind);
            a = oneOf(1, 2, 1, 2, 0, 3, a);
            vw = oneOf(12, 21, 12, 21, 11, 22, 10, 1, 0, 2, vw);
        } else if (mood == 2) {
            kind = oneOf(0, 1, 2, 3, 4, 3, 4, 13, kind);
        } else if (mood == 3) {
            kind = oneOf(5, 6, 7, 8, 5, 6, 7, 8, 9, 10, 11, kind);
            vw = 10 * below(3) + below(4);
        } else if (mood == 4) {
            kind = oneOf(9, 10, 11, 12, 13, 14, 9, 10, kind);
        }
        int owner = below(2);
        if (below(25) == 0) {
            kind = oneOf(-1, 15, kind);
            owner = oneOf(-1, 2, owner);
            vw = oneOf(-1, 4, 14, 34, 40, 100, vw, -10);
            a = oneOf(-10, 10, a);
        }
        same("card(" + kind + ", " + owner + ", " + vw + ", " + a + ")",
            x.card(kind, owner, vw, a), m.card(kind, owner, vw, a));
    }

    private void deal() {
        int n = cardIn(Model.Place.DECK);
        same("deal(" + n + ")", x.deal(n), m.deal(n));
    }

    private void play() {
        int n = cardIn(Model.Place.HAND);
        same("play(" + n + ")", x.play(n), m.play(n));
    }

    private void run() {
        same("run()", x.run(), m.run());
        for (int what = -1; what <= 3; what++) {
            same("ended(" + what + ")", x.ended(what), m.ended(what));
        }
    }

    private void feedText(String text) {
        for (int i = 0; i < text.length() && goesOn(); i++) {
            same("feed(" + (int) text.charAt(i) + ")", x.feed(text.charAt(i)), m.feed(text.charAt(i)));
        }
    }

    private void deck() {
        StringBuilder text = new StringBuilder();
        int lines = 1 + below(3);
        for (int i = 0; i < lines; i++) {
            text.append(i == 0 ? "" : ";").append(Model.WORDS[below(15)]).append(' ').append(below(2)).append(' ')
                .append(below(4)).append(' ').append(below(4)).append(' ').append(below(19) - 9);
        }
        int change = below(4);
        int place = below(text.length());
        if (change == 0) {
            text.setCharAt(place, " 0123459-;aesx".charAt(below(14)));
        } else if (change == 1) {
            text.setLength(place);
        } else if (change == 2 && below(2) == 0) {
            text.insert(place, " 012;-e".charAt(below(7)));
        }
        feedText(text.toString());
        same("deck() of " + text, x.deck(), m.deck());
    }

    private void change() {
        switch (below(20)) {
            case 0: case 1: newCard(); break;
            case 2: case 3: deal(); break;
            case 4: case 5: case 6: play(); break;
            case 7: same("resolve()", x.resolve(), m.resolve()); break;
            case 8: case 9: run(); break;
            case 10: case 11: same("turn()", x.turn(), m.turn()); break;
            case 12: {
                int player = player();
                int n = oneOf(20, 40, 99, 60, 5, 1, 0, -3, 100, -100, 50, 30);
                same("mend(" + player + ", " + n + ")", x.mend(player, n), m.mend(player, n));
                break;
            }
            case 13: {
                int value = below(6) - 1;
                int n = oneOf(0, 1, 2, 3, -1, 5, 99, -99, 100, -100);
                same("base(" + value + ", " + n + ")", x.base(value, n), m.base(value, n));
                break;
            }
            case 14: {
                int v = oneOf(0, 1, -1, 12345, Integer.MIN_VALUE, Integer.MAX_VALUE, below(1 << 30));
                same("seed(" + v + ")", x.seed(v), m.seed(v));
                break;
            }
            case 15:
                if (below(3) == 0) {
                    same("image()", x.image(), m.image());
                } else if (below(3) == 0) {
                    same("back()", x.back(), m.back());
                }
                break;
            case 16: {
                int handle = below(10) - 1;
                int n = anyCard();
                same("hold(" + handle + ", " + n + ")", x.hold(handle, n), m.hold(handle, n));
                break;
            }
            case 17:
                if (below(6) == 0) {
                    deck();
                }
                break;
            case 18:
                // somebody has often lost: then most calls tell little
                same("mend(0, 30)", x.mend(0, 30), m.mend(0, 30));
                same("mend(1, 30)", x.mend(1, 30), m.mend(1, 30));
                break;
            default:
                for (int i = 0; i < 3; i++) {
                    play();
                }
                run();
        }
    }

    private void ask() {
        int n = anyCard();
        int player = player();
        switch (below(23)) {
            case 0: { int what = below(9) - 1; same("of(" + n + ", " + what + ")", x.of(n, what), m.of(n, what)); break; }
            case 1: { int what = below(7) - 1; same("player(" + player + ", " + what + ")", x.player(player, what), m.player(player, what)); break; }
            case 2: { int v = below(6) - 1; same("value(" + v + ")", x.value(v), m.value(v)); break; }
            case 3: { int i = below(12) - 1; same("layer(" + i + ")", x.layer(i), m.layer(i)); break; }
            case 4: { int o = cardIn(Model.Place.TABLE); int t = cardIn(Model.Place.TABLE); same("depends(" + o + ", " + t + ")", x.depends(o, t), m.depends(o, t)); break; }
            case 5: case 6: {
                int tpa = below(15) == 0 ? oneOf(-1, 200, 999, 1200, 2200, 3000, -1000, 999999) : 1000 * below(3) + 100 * below(2) + oneOf(0, 1, 5, 50, 99, below(100));
                int k = below(10) - 3;
                same("used(" + tpa + ", " + k + ")", x.used(tpa, k), m.used(tpa, k));
                break;
            }
            case 7: case 8: { int i = below(20) == 0 ? -1 : below(m.now.pile.size() + 2); same("pile(" + i + ")", x.pile(i), m.pile(i)); break; }
            case 9: case 10: { int what = below(6) - 1; same("dry(" + what + ")", x.dry(what), m.dry(what)); break; }
            case 11: { int c = cardIn(Model.Place.HAND); same("worth(" + c + ")", x.worth(c), m.worth(c)); break; }
            case 12: { int what = below(8) == 0 ? oneOf(-1, 2) : below(2); same("best(" + player + ", " + what + ")", x.best(player, what), m.best(player, what)); break; }
            case 13: if (below(3) == 0) { int k = below(5); same("byTurns(" + k + ")", x.byTurns(k), m.byTurns(k)); } break;
            case 14: if (m.matterIsPlain()) { same("matter()", x.matter(), m.matter()); } break;
            case 15: { int c = cardIn(Model.Place.TABLE); same("swing(" + c + ")", x.swing(c), m.swing(c)); break; }
            case 16: same("next(" + player + ")", x.next(player), m.next(player)); break;
            case 17: { int k = below(11); int what = below(7) - 1; same("ahead(" + k + ", " + what + ")", x.ahead(k, what), m.ahead(k, what)); break; }
            case 18: case 19: { int w = below(12) == 0 ? oneOf(-1, 2) : below(2); int i = below(12) == 0 ? oneOf(-1, 39, 40, 41) : below(20); same("trace(" + w + ", " + i + ")", x.trace(w, i), m.trace(w, i)); break; }
            case 20: { int h = below(10) - 1; int f = below(7) - 1; same("tells(" + h + ", " + f + ")", x.tells(h, f), m.tells(h, f)); break; }
            default: { int what = below(11) - 1; same("count(" + what + ")", x.count(what), m.count(what)); }
        }
    }

    private static int anyInt() {
        return oneOf(Integer.MIN_VALUE, Integer.MAX_VALUE, -1, 0, 1, 24, 64, 120, below(1 << 30), -below(1 << 30));
    }

    /** Any numbers at all, of each call that takes some. */
    private void wild() {
        int i = anyInt();
        int j = anyInt();
        same("card(" + i + ", " + j + ", " + i + ", " + j + ")", x.card(i, j, i, j), m.card(i, j, i, j));
        same("feed(" + i + ")", x.feed(i), m.feed(i));
        same("of(" + i + ", " + j + ")", x.of(i, j), m.of(i, j));
        same("deal(" + i + ")", x.deal(i), m.deal(i));
        same("base(" + i + ", " + j + ")", x.base(i, j), m.base(i, j));
        same("mend(" + i + ", " + j + ")", x.mend(i, j), m.mend(i, j));
        same("player(" + i + ", " + j + ")", x.player(i, j), m.player(i, j));
        same("value(" + i + ")", x.value(i), m.value(i));
        same("layer(" + i + ")", x.layer(i), m.layer(i));
        same("depends(" + i + ", " + j + ")", x.depends(i, j), m.depends(i, j));
        same("used(" + i + ", " + j + ")", x.used(i, j), m.used(i, j));
        same("play(" + i + ")", x.play(i), m.play(i));
        same("pile(" + i + ")", x.pile(i), m.pile(i));
        same("ended(" + i + ")", x.ended(i), m.ended(i));
        same("dry(" + i + ")", x.dry(i), m.dry(i));
        same("worth(" + i + ")", x.worth(i), m.worth(i));
        same("best(" + i + ", " + j + ")", x.best(i, j), m.best(i, j));
        same("byTurns(" + i + ")", x.byTurns(i), m.byTurns(i));
        same("swing(" + i + ")", x.swing(i), m.swing(i));
        same("next(" + i + ")", x.next(i), m.next(i));
        same("ahead(" + i + ", " + j + ")", x.ahead(i, j), m.ahead(i, j));
        same("trace(" + i + ", " + j + ")", x.trace(i, j), m.trace(i, j));
        same("seed(" + i + ")", x.seed(i), m.seed(i));
        same("hold(" + i + ", " + j + ")", x.hold(i, j), m.hold(i, j));
        same("tells(" + i + ", " + j + ")", x.tells(i, j), m.tells(i, j));
        same("count(" + i + ")", x.count(i), m.count(i));
    }

    private void playThrough() {
        int first = 4 + below(20);
        for (int i = 0; i < first; i++) {
            newCard();
        }
        for (int i = 0; i < first * 2 / 3; i++) {
            deal();
        }
        if (mood == 5 || mood == 2 || mood == 3) {
            for (int i = 0; i < first / 2; i++) {
                play();
                same("resolve()", x.resolve(), m.resolve());
            }
            same("mend(0, 90)", x.mend(0, 90), m.mend(0, 90));
            same("mend(1, 90)", x.mend(1, 90), m.mend(1, 90));
        }
        while (goesOn()) {
            if (mood == 6 && below(20) == 0 && calls + 30 < CALLS) {
                wild();
            } else if (below(5) < 2) {
                change();
            } else {
                ask();
            }
        }
    }

    public static void main(String[] args) {
        int runs = args.length > 0 ? Integer.parseInt(args[0]) : RUNS;
        int from = args.length > 1 ? Integer.parseInt(args[1]) : 0;
        int[] ends = new int[4];
        int fullPiles = 0;
        for (int run = from; run < from + runs; run++) {
            state = run * 7919L + 17;
            below(2);
            ModelRuns one = new ModelRuns(run);
            one.playThrough();
            ends[one.m.latestRun.end]++;
            fullPiles += one.m.now.pile.size() == 64 ? 1 : 0;
        }
        System.out.println("latest runs ended: empty " + ends[0] + ", lost " + ends[1] + ", loop " + ends[2]
            + ", limit " + ends[3] + "; full piles " + fullPiles);
        checks.close();
    }
}
