/** Promises 10 to 12: LAYERED, DEPENDS, THE VALUES: each boundary has a test of its own. */
public final class EdgesOfValues {
    private static final Checks checks = new Checks("EdgesOfValues");
    private static final int ADD = Games.ADD, TIMES = Games.TIMES, SET = Games.SET, LIKE = Games.LIKE,
        MORE = Games.MORE;
    private static final int BAD = Games.BAD, NOT = Games.NOT, VOID = Games.VOID, LOW = Games.LOW, HIGH = Games.HIGH;

    private static void due(String call, long got, long want) {
        checks.due(call, got, want);
    }

    /** VALUE 0 of a BASE behind LAYERS on it, told by KIND and a, the OLDEST first. */
    private static int layered(int base, int... kindsAndAs) {
        LayeredCards x = new LayeredCards();
        x.base(0, base);
        for (int i = 0; i < kindsAndAs.length; i += 2) {
            Games.resolved(x, kindsAndAs[i], 0, 1, kindsAndAs[i + 1]);
        }
        return x.value(0);
    }

    /** 10: "THE VALUE. VOID: BAD."; "VALUES 0 .. 3". */
    private static void valueOfWhich() {
        LayeredCards x = new LayeredCards();
        int[] due = {VOID, VOID, 1, 2, 1, 7, VOID, VOID};
        for (int value = -2; value < 6; value++) {
            due("value(" + value + ")", x.value(value), due[value + 2]);
        }
        int[] far = {LOW, HIGH, 256, -256, 65536};
        for (int value : far) {
            due("value(" + value + ")", x.value(value), VOID);
        }
    }

    /** "BASES at first": -99 and 99 are VALUES, too. */
    private static void basesAtFirst() {
        due("base 99", layered(99), 99);
        due("base -99", layered(-99), -99);
    }

    /** "held within -99 .. 99 behind each": ADD. */
    private static void addIsHeld() {
        due("90 + 8", layered(90, ADD, 8), 98);
        due("90 + 9", layered(90, ADD, 9), 99);
        due("91 + 9", layered(91, ADD, 9), 99);
        due("99 + 1", layered(99, ADD, 1), 99);
        due("-90 - 8", layered(-90, ADD, -8), -98);
        due("-90 - 9", layered(-90, ADD, -9), -99);
        due("-91 - 9", layered(-91, ADD, -9), -99);
        due("-99 - 1", layered(-99, ADD, -1), -99);
    }

    private static void timesIsHeld() {
        due("49 * 2", layered(49, TIMES, 2), 98);
        due("11 * 9", layered(11, TIMES, 9), 99);
        due("50 * 2", layered(50, TIMES, 2), 99);
        due("99 * 9", layered(99, TIMES, 9), 99);
        due("-99 * -9", layered(-99, TIMES, -9), 99);
        due("49 * -2", layered(49, TIMES, -2), -98);
        due("11 * -9", layered(11, TIMES, -9), -99);
        due("50 * -2", layered(50, TIMES, -2), -99);
        due("99 * -9", layered(99, TIMES, -9), -99);
        due("99 * 0", layered(99, TIMES, 0), 0);
    }

    /** v and w alike: MORE is the VALUE and itself. */
    private static void moreIsHeld() {
        int[][] rows = {{49, 49, 98}, {50, 49, 99}, {50, 50, 99}, {99, 99, 99}, {-49, -49, -98}, {-50, -49, -99},
            {-50, -50, -99}, {-99, -99, -99}, {99, -99, 0}};
        for (int[] row : rows) {
            LayeredCards x = new LayeredCards();
            x.base(0, row[0]);
            x.base(1, row[1]);
            Games.resolved(x, MORE, 0, 1, 9);
            due(row[0] + " and " + row[1], x.value(0), row[2]);
            due("the other value", x.value(1), row[1]);
        }
    }

    private static void likeAndSetAreNotChanged() {
        LayeredCards x = new LayeredCards();
        x.base(1, 99);
        Games.resolved(x, LIKE, 0, 1, -9);
        due("like 99", x.value(0), 99);
        x.base(1, -99);
        due("like -99", x.value(0), -99);
        due("set 9", layered(99, SET, 9), 9);
        due("set -9", layered(99, SET, -9), -9);
        due("set 0", layered(99, SET, 0), 0);
    }

    /** "behind each", not behind the last alone. */
    private static void heldBehindEachAdd() {
        due("91 + 9 - 9", layered(91, ADD, 9, ADD, -9), 90);
        due("-91 - 9 + 9", layered(-91, ADD, -9, ADD, 9), -90);
    }

    private static void heldBehindEachTimes() {
        due("50 * 2 - 9", layered(50, TIMES, 2, ADD, -9), 90);
        due("50 * -2 + 9", layered(50, TIMES, -2, ADD, 9), -90);
    }

    private static void heldBehindEachMore() {
        LayeredCards x = new LayeredCards();
        x.base(0, 50);
        x.base(1, 50);
        Games.resolved(x, MORE, 0, 1, 0);
        Games.resolved(x, ADD, 0, 0, -9);
        due("50 and 50 - 9", x.value(0), 90);
        x.base(0, -50);
        x.base(1, -60);
        due("-50 and -60 - 9", x.value(0), -99);
    }

    /** "what VALUE w is then": held already, and not its BASE. */
    private static void whatItIsThen() {
        LayeredCards x = new LayeredCards();
        x.base(1, 95);
        Games.resolved(x, ADD, 0, 10, 9);
        Games.resolved(x, LIKE, 0, 1, 0);
        Games.resolved(x, MORE, 0, 21, 0);
        due("like", x.value(0), 99);
        x.base(2, -99);
        due("more", x.value(2), 0);
    }

    /** "all LAYERS on the TABLE": of both PLAYERS, none that is elsewhere, none of another FAMILY. */
    private static void onTheTable() {
        LayeredCards x = Games.eachPlace(ADD, 1);
        due("the one on the table", x.layer(0), 3);
        due("no other", x.layer(1), NOT);
        for (int kind = 0; kind < 15; kind++) {
            LayeredCards y = new LayeredCards();
            Games.resolved(y, kind, 1, 0, 0);
            due("layer(0) of kind " + kind, y.layer(0), kind <= 4 ? 0 : NOT);
        }
    }

    /** 11: "The i-th LAYER, as LAYERED. BAD: i below 0; NOT: there are not as many." */
    private static void layerWhich() {
        LayeredCards x = new LayeredCards();
        due("layer(0) of none", x.layer(0), NOT);
        due("layer(-1) of none", x.layer(-1), BAD);
        for (int n = 0; n < 24; n++) {
            Games.resolved(x, ADD, 0, 0, 0);
            due("the last of " + (n + 1), x.layer(n), n);
            due("one behind it", x.layer(n + 1), NOT);
        }
        due("layer(-1)", x.layer(-1), BAD);
        due("layer(-2)", x.layer(-2), BAD);
        due("layer(LOW)", x.layer(LOW), BAD);
        due("layer(HIGH)", x.layer(HIGH), NOT);
        due("layer(256)", x.layer(256), NOT);
    }

    /**
     * "A LAYER DEPENDS on another one, if it is LIKE or MORE and its w is the v of that one", and what follows for
     * two: the OLDEST first, but for one that DEPENDS on a YOUNGER that doesn't on it. Each pair of KINDS, v and w.
     */
    private static void everyTwo() {
        for (int one = 0; one < 5; one++) {
            for (int other = 0; other < 5; other++) {
                for (int vws = 0; vws < 256; vws++) {
                    two(one, 10 * (vws & 3) + (vws >> 2 & 3), other, 10 * (vws >> 4 & 3) + (vws >> 6 & 3));
                }
            }
        }
    }

    private static void two(int one, int oneVw, int other, int otherVw) {
        LayeredCards x = new LayeredCards();
        Games.resolved(x, one, 0, oneVw, 0);
        Games.resolved(x, other, 1, otherVw, 0);
        boolean oneOnOther = (one == LIKE || one == MORE) && oneVw % 10 == otherVw / 10;
        boolean otherOnOne = (other == LIKE || other == MORE) && otherVw % 10 == oneVw / 10;
        String told = " of kinds " + one + ", " + other + ", vw " + oneVw + ", " + otherVw;
        due("depends(0, 1)" + told, x.depends(0, 1), oneOnOther ? 1 : 0);
        due("depends(1, 0)" + told, x.depends(1, 0), otherOnOne ? 1 : 0);
        int first = oneOnOther && !otherOnOne ? 1 : 0;
        due("layer(0)" + told, x.layer(0), first);
        due("layer(1)" + told, x.layer(1), 1 - first);
    }

    /** "on another one": a LAYER whose w is its own v waits for no one. */
    private static void notOnItself() {
        LayeredCards x = new LayeredCards();
        int own = Games.resolved(x, MORE, 0, 0, 0);
        int free = Games.resolved(x, ADD, 0, 10, 1);
        due("first the oldest", x.layer(0), own);
        due("then the other one", x.layer(1), free);
        due("depends(own, own)", x.depends(own, own), BAD);
    }

    /** "the OLDEST (least AGE)": not the one of the least number. */
    private static void oldestByAge() {
        LayeredCards x = new LayeredCards();
        int late = x.card(TIMES, 0, 0, 5);
        int early = Games.resolved(x, ADD, 0, 0, 1);
        x.deal(late);
        x.play(late);
        x.resolve();
        due("the first", x.layer(0), early);
        due("the second", x.layer(1), late);
        due("(1 + 1) * 5", x.value(0), 10);
    }

    /** "that DEPEND on none that isn't used yet": on one that is used it may. */
    private static void waitsTillItIsUsed() {
        LayeredCards x = new LayeredCards();
        int last = Games.resolved(x, LIKE, 0, 1, 0);
        int middle = Games.resolved(x, LIKE, 0, 12, 0);
        int first = Games.resolved(x, SET, 0, 20, 5);
        int free = Games.resolved(x, SET, 0, 30, 5);
        due("first", x.layer(0), first);
        due("second", x.layer(1), middle);
        due("third: the oldest that is free then", x.layer(2), last);
        due("last", x.layer(3), free);
        due("value 0", x.value(0), 5);
    }

    /** "if there is none of these: of all not used yet the OLDEST": a ring of three, then what is free again. */
    private static void rings() {
        LayeredCards x = new LayeredCards();
        int a = Games.resolved(x, LIKE, 0, 1, 0);
        int b = Games.resolved(x, LIKE, 0, 12, 0);
        int c = Games.resolved(x, LIKE, 0, 20, 0);
        due("the oldest breaks the ring", x.layer(0), a);
        due("then who depends on it", x.layer(1), c);
        due("then the last", x.layer(2), b);
        due("value 0 is what 1 was", x.value(0), 2);
        due("value 2 is what 0 is", x.value(2), 2);
        due("value 1 is what 2 is", x.value(1), 2);
    }

    /** Only when none is free the OLDEST of all: here one is, though it is YOUNGER than the ring. */
    private static void freeAheadOfARing() {
        LayeredCards x = new LayeredCards();
        int a = Games.resolved(x, MORE, 0, 1, 0);
        int b = Games.resolved(x, MORE, 0, 10, 0);
        int free = Games.resolved(x, ADD, 0, 30, 1);
        due("the free one", x.layer(0), free);
        due("then the oldest", x.layer(1), a);
        due("then the other one", x.layer(2), b);
    }

    private static void ringsBroken() {
        LayeredCards x = new LayeredCards();
        // 0 is older than 1 and 2, which make a ring that it isn't in: it is the OLDEST of all not used yet
        int outside = Games.resolved(x, LIKE, 0, 1, 0);
        int a = Games.resolved(x, LIKE, 0, 12, 0);
        int b = Games.resolved(x, LIKE, 0, 21, 0);
        due("the oldest of all, not of the ring", x.layer(0), outside);
        due("then the oldest", x.layer(1), a);
        due("then the last", x.layer(2), b);
    }

    /** 12: "BAD: no such CARDS, alike, or not such." */
    private static void dependsNoSuch() {
        LayeredCards x = new LayeredCards();
        Games.resolved(x, LIKE, 0, 1, 0);
        Games.resolved(x, ADD, 0, 10, 0);
        due("depends(0, 1)", x.depends(0, 1), 1);
        due("depends(1, 0)", x.depends(1, 0), 0);
        int[] none = {-1, -2, 2, 24, 256, 257, LOW, HIGH};
        for (int n : none) {
            due("depends(0, " + n + ")", x.depends(0, n), BAD);
            due("depends(" + n + ", 1)", x.depends(n, 1), BAD);
        }
        due("alike: depends(0, 0)", x.depends(0, 0), BAD);
        due("alike: depends(1, 1)", x.depends(1, 1), BAD);
    }

    private static void dependsNoLayer() {
        for (int kind = 0; kind < 15; kind++) {
            LayeredCards x = new LayeredCards();
            Games.resolved(x, LIKE, 0, 1, 0);
            Games.resolved(x, kind, 1, 11, 0);
            due("depends(0, 1) of kind " + kind, x.depends(0, 1), kind <= 4 ? 1 : BAD);
            due("depends(1, 0) of kind " + kind, x.depends(1, 0), kind <= 4 ? 0 : BAD);
        }
    }

    private static void dependsNotOnTheTable() {
        LayeredCards x = Games.eachPlace(LIKE, 0);
        int like = Games.resolved(x, LIKE, 0, 0, 0);
        for (int place = 0; place < 5; place++) {
            due("depends(like, in place " + place + ")", x.depends(like, place), place == 3 ? 1 : BAD);
            due("depends(in place " + place + ", like)", x.depends(place, like), place == 3 ? 1 : BAD);
        }
    }

    private static void dependsOneGone() {
        LayeredCards x = new LayeredCards();
        int like = Games.resolved(x, LIKE, 0, 1, 0);
        int add = Games.resolved(x, ADD, 1, 10, 0);
        due("both there", x.depends(like, add), 1);
        Games.resolved(x, Games.CLEAR, 0, 0, 0);
        due("one gone", x.depends(like, add), BAD);
        due("the other way", x.depends(add, like), BAD);
        due("it is no layer", x.layer(1), NOT);
    }

    public static void main(String[] args) {
        valueOfWhich();
        basesAtFirst();
        addIsHeld();
        timesIsHeld();
        moreIsHeld();
        likeAndSetAreNotChanged();
        heldBehindEachAdd();
        heldBehindEachTimes();
        heldBehindEachMore();
        whatItIsThen();
        onTheTable();
        layerWhich();
        everyTwo();
        notOnItself();
        oldestByAge();
        waitsTillItIsUsed();
        rings();
        freeAheadOfARing();
        ringsBroken();
        dependsNoSuch();
        dependsNoLayer();
        dependsNotOnTheTable();
        dependsOneGone();
        checks.close();
    }
}
