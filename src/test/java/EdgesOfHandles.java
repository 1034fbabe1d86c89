/** Promises 32 to 34: HANDLES and count: each boundary has a test of its own. */
public final class EdgesOfHandles {
    private static final Checks checks = new Checks("EdgesOfHandles");
    private static final int HEAL = Games.HEAL, ECHO = Games.ECHO;
    private static final int BAD = Games.BAD, LOW = Games.LOW, HIGH = Games.HIGH, NOTHING_THERE = -11, OTHER_FAMILY = -12;
    private static final int[] FAR = {LOW, HIGH, 256, -256, 65536, 1 << 24};

    private static void due(String call, long got, long want) {
        checks.due(call, got, want);
    }

    /** "HANDLES 0 .. 7 hold nothing (at first)". */
    private static void nothingAtFirst() {
        LayeredCards x = Games.withCards(24);
        for (int handle = 0; handle < 8; handle++) {
            for (int family = 0; family < 5; family++) {
                due("tells(" + handle + ", " + family + ")", x.tells(handle, family), NOTHING_THERE);
            }
        }
    }

    /** 32: "BAD": no such HANDLE, for a CARD and for nothing. */
    private static void holdByWhich() {
        LayeredCards x = Games.withCards(1);
        for (int handle = -2; handle <= 10; handle++) {
            boolean right = handle >= 0 && handle <= 7;
            due("hold(" + handle + ", 0)", x.hold(handle, 0), right ? 1 : BAD);
            due("tells(" + handle + ", 0)", x.tells(handle, 0), right ? 110 : BAD);
            due("hold(" + handle + ", -1)", x.hold(handle, -1), right ? 1 : BAD);
            due("tells(" + handle + ", 0)", x.tells(handle, 0), right ? NOTHING_THERE : BAD);
        }
        for (int far : FAR) {
            due("hold(" + far + ", 0)", x.hold(far, 0), BAD);
            due("tells(" + far + ", 0)", x.tells(far, 0), BAD);
        }
    }

    /** "a CARD, or nothing (card -1)": no other number below 0, none above the last. */
    private static void holdWhat() {
        LayeredCards x = new LayeredCards();
        due("hold(0, 0) of none", x.hold(0, 0), BAD);
        due("hold(0, -1) of none", x.hold(0, -1), 1);
        for (int n = 0; n < 24; n++) {
            x.card(ECHO, 0, 0, 0);
            due("the last of " + (n + 1), x.hold(n % 8, n), 1);
            due("one behind it", x.hold(n % 8, n + 1), BAD);
            due("it holds what it held", x.tells(n % 8, 0), 114);
        }
        due("hold(0, -2)", x.hold(0, -2), BAD);
        for (int far : FAR) {
            due("hold(0, " + far + ")", x.hold(0, far), BAD);
        }
        due("it holds what it held", x.tells(0, 0), 114);
    }

    /** Each HANDLE holds for itself; two may hold one CARD. */
    private static void eachForItself() {
        LayeredCards x = new LayeredCards();
        for (int n = 0; n < 8; n++) {
            x.card(n, 0, 0, 0);
            x.hold(n, n);
        }
        for (int n = 0; n < 8; n++) {
            due("handle " + n, x.tells(n, 0), 100 + n);
        }
        x.hold(3, 5);
        x.hold(4, -1);
        int[] due = {100, 101, 102, 105, NOTHING_THERE, 105, 106, 107};
        for (int n = 0; n < 8; n++) {
            due("handle " + n + " then", x.tells(n, 0), due[n]);
        }
    }

    /** A CARD is held wherever it is. */
    private static void holdWhereever() {
        LayeredCards x = Games.eachPlace(ECHO, 0);
        for (int place = 0; place < 5; place++) {
            due("hold place " + place, x.hold(place, place), 1);
            due("it tells", x.tells(place, 0), place == 4 ? 112 : 114);
        }
    }

    /** 33: "0 any; 1 LAYER, 2 REPLACER, 3 ANSWER, 4 WATCHER": of each KIND each FAMILY, one below and above. */
    private static void families() {
        for (int kind = 0; kind < 15; kind++) {
            LayeredCards x = new LayeredCards();
            x.card(kind, 0, 0, 0);
            x.hold(0, 0);
            int own = kind < 5 ? 1 : kind < 9 ? 2 : kind < 14 ? 3 : 4;
            due("tells(0, 0) of kind " + kind, x.tells(0, 0), 100 + kind);
            for (int family = 1; family <= 4; family++) {
                due("of kind " + kind + " as " + family + ": another one", x.tells(0, family) == OTHER_FAMILY ? 1 : 0,
                    family == own ? 0 : 1);
            }
            due("tells(0, -1)", x.tells(0, -1), BAD);
            due("tells(0, 5)", x.tells(0, 5), BAD);
            for (int far : FAR) {
                due("tells(0, " + far + ")", x.tells(0, far), BAD);
            }
        }
    }

    /** "of several BAD ahead", then -11, then -12. */
    private static void whichAnswerIsAhead() {
        LayeredCards x = Games.withCards(1);
        due("nothing there, no family", x.tells(0, 5), BAD);
        due("nothing there, no family", x.tells(0, -1), BAD);
        due("nothing there, no handle", x.tells(8, 0), BAD);
        due("nothing there", x.tells(0, 1), NOTHING_THERE);
        x.hold(0, 0);
        due("another family", x.tells(0, 1), OTHER_FAMILY);
        due("no family", x.tells(0, 5), BAD);
    }

    private static int told(int kind, int vw, int a, int family) {
        LayeredCards x = new LayeredCards();
        x.card(kind, 1, vw, a);
        x.hold(7, 0);
        return x.tells(7, family) - 100;
    }

    /** "LAYER: what it makes of 10, w 20": each a; v and w alike or not. */
    private static void whatLayersTell() {
        for (int a = -9; a <= 9; a++) {
            for (int vw = 0; vw <= 33; vw += 11) {
                due("add " + a, told(Games.ADD, vw, a, 1), 10 + a);
                due("times " + a, told(Games.TIMES, vw, a, 1), 10 * a);
                due("set " + a, told(Games.SET, vw, a, 1), a);
            }
            due("like, a " + a, told(Games.LIKE, 12, a, 1), 20);
            due("more, a " + a, told(Games.MORE, 12, a, 1), 30);
        }
    }

    /** It is not what THE VALUES are. */
    private static void notByTheValues() {
        LayeredCards x = new LayeredCards();
        x.base(0, 50);
        x.base(1, -50);
        x.hold(0, Games.resolved(x, Games.ADD, 0, 0, 5));
        x.hold(1, Games.resolved(x, Games.LIKE, 0, 1, 5));
        due("add", x.tells(0, 1), 115);
        due("like", x.tells(1, 1), 120);
    }

    /** "REPLACER: the AMOUNT it makes of 10 (AWAY, TURN: 10)": whatever v is, 3, too. */
    private static void whatReplacersTell() {
        for (int a = -9; a <= 9; a++) {
            for (int v = 0; v <= 3; v++) {
                due("twice", told(Games.TWICE, 10 * v, a, 2), 20);
                due("away", told(Games.AWAY, 10 * v, a, 2), 10);
                due("less " + a, told(Games.LESS, 10 * v, a, 2), 10 - a);
                due("turn", told(Games.TURN, 10 * v + v, a, 2), 10);
            }
        }
    }

    /** "ANSWER: a; WATCHER: v times 4, and w". */
    private static void whatTheOthersTell() {
        for (int a = -9; a <= 9; a++) {
            for (int kind = Games.STRIKE; kind <= Games.CLEAR; kind++) {
                due("answer of kind " + kind, told(kind, 21, a, 3), a);
            }
        }
        for (int v = 0; v <= 3; v++) {
            for (int w = 0; w <= 3; w++) {
                due("echo " + v + ", " + w, told(ECHO, 10 * v + w, 5, 4), 4 * v + w);
            }
        }
    }

    /** 34: "0 CARDS .. 8 who has LOST (bits). BAD." */
    private static void countWhat() {
        LayeredCards x = new LayeredCards();
        Games.resolved(x, ECHO, 0, 33, 0);
        Games.resolved(x, ECHO, 1, 33, 0);
        Games.resolved(x, ECHO, 1, 33, 0);
        Games.resolved(x, Games.CLEAR, 0, 0, 0);
        x.turn();
        Games.onPile(x, HEAL, 0, 0, 0);
        x.card(HEAL, 0, 0, 0);
        x.feed('a');
        x.feed('b');
        x.feed('c');
        x.feed('d');
        x.feed('e');
        x.mend(1, 0);
        int[] due = {BAD, BAD, 6, 1, 2, 2, 5, 3, 1, 1, 2, BAD, BAD};
        for (int what = -2; what <= 10; what++) {
            due("count(" + what + ")", x.count(what), due[what + 2]);
        }
        for (int far : FAR) {
            due("count(" + far + ")", x.count(far), BAD);
        }
    }

    /** "who has LOST (bits)": PLAYER 0 is bit 0, PLAYER 1 bit 1; LIFE 0 has, LIFE 1 has not. */
    private static void countOfTheLost() {
        for (int life0 = -1; life0 <= 1; life0++) {
            for (int life1 = -1; life1 <= 1; life1++) {
                LayeredCards x = new LayeredCards();
                Games.lives(x, life0, life1);
                due("count(8) of " + life0 + ", " + life1, x.count(8), (life0 <= 0 ? 1 : 0) + (life1 <= 0 ? 2 : 0));
            }
        }
    }

    /** Each count at its greatest. */
    private static void countOfAll() {
        due("24 cards", Games.withCards(24).count(0), 24);
        due("120 bytes", Games.withBytes(120).count(4), 120);
        due("64 things", Games.with60And(4, Games.STOP).count(1), 64);
        LayeredCards x = new LayeredCards();
        for (int n = 1; n <= 24; n++) {
            Games.resolved(x, ECHO, n % 2, 33, 0);
            due("on the table", x.count(2), n);
            due("clock", x.count(5), n);
        }
        LayeredCards y = new LayeredCards();
        for (int n = 1; n <= 24; n++) {
            Games.resolved(y, Games.STOP, n % 2, 33, 0);
            due("gone", y.count(3), n);
        }
    }

    public static void main(String[] args) {
        nothingAtFirst();
        holdByWhich();
        holdWhat();
        eachForItself();
        holdWhereever();
        families();
        whichAnswerIsAhead();
        whatLayersTell();
        notByTheValues();
        whatReplacersTell();
        whatTheOthersTell();
        countWhat();
        countOfTheLost();
        countOfAll();
        checks.close();
    }
}
