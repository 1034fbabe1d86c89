import java.util.ArrayList;
import java.util.HashMap;
import java.util.List;
import java.util.Map;

/**
 * The document once more, word by word and as slow as it may be, to hold LayeredCards against.
 * It is written apart from it on purpose: it shares no line with it.
 */
final class Model {
    static final int BAD = -1, NOT = -2, FULL = -3, STATE = -5, VOID = -2000000000;
    static final String[] WORDS = {"add", "times", "set", "like", "more", "twice", "away", "less", "turn",
        "strike", "heal", "fetch", "stop", "clear", "echo"};

    enum Place { DECK, HAND, PILE, TABLE, GONE }

    static final class Card {
        final int number, kind, owner, v, w, a;
        Place place = Place.DECK;
        int age = -1;

        Card(int number, int kind, int owner, int v, int w, int a) {
            this.number = number;
            this.kind = kind;
            this.owner = owner;
            this.v = v;
            this.w = w;
            this.a = a;
        }

        Card copy() {
            Card c = new Card(number, kind, owner, v, w, a);
            c.place = place;
            c.age = age;
            return c;
        }

        boolean isLayer() {
            return kind <= 4;
        }

        boolean isReplacer() {
            return kind >= 5 && kind <= 8;
        }

        boolean isAnswer() {
            return kind >= 9 && kind <= 13;
        }

        boolean dependsOn(Card other) {
            return (kind == 3 || kind == 4) && other != this && other.isLayer() && other.v == w;
        }
    }

    static final class Happening {
        int type, player, amount;
        final List<Integer> used = new ArrayList<>();

        Happening(int type, int player, int amount) {
            this.type = type;
            this.player = player;
            this.amount = hold(amount, 0, 99);
        }

        int code() {
            return type * 1000 + player * 100 + amount;
        }
    }

    static int hold(int n, int least, int most) {
        return n < least ? least : Math.min(n, most);
    }

    /** All that an image keeps. */
    static final class World {
        final List<Card> cards = new ArrayList<>();
        final int[] life = {20, 20};
        final int[] base = {1, 2, 1, 7};
        final List<Integer> pile = new ArrayList<>();
        int clock = 0, seed = 1, active = 0, turns = 0;

        World copy() {
            World to = new World();
            for (Card c : cards) {
                to.cards.add(c.copy());
            }
            System.arraycopy(life, 0, to.life, 0, 2);
            System.arraycopy(base, 0, to.base, 0, 4);
            to.pile.addAll(pile);
            to.clock = clock;
            to.seed = seed;
            to.active = active;
            to.turns = turns;
            return to;
        }

        List<Card> in(Place place, int owner) {
            List<Card> found = new ArrayList<>();
            for (Card c : cards) {
                if (c.place == place && c.owner == owner) {
                    found.add(c);
                }
            }
            return found;
        }

        List<Card> tableByAge() {
            List<Card> found = new ArrayList<>();
            for (Card c : cards) {
                if (c.place == Place.TABLE) {
                    found.add(c);
                }
            }
            found.sort((x, y) -> Integer.compare(x.age, y.age));
            return found;
        }

        List<Card> layersInOrder() {
            List<Card> unused = new ArrayList<>();
            for (Card c : tableByAge()) {
                if (c.isLayer()) {
                    unused.add(c);
                }
            }
            List<Card> order = new ArrayList<>();
            while (!unused.isEmpty()) {
                Card next = null;
                for (Card c : unused) {
                    if (next == null && unused.stream().noneMatch(c::dependsOn)) {
                        next = c;
                    }
                }
                if (next == null) {
                    next = unused.get(0);
                }
                unused.remove(next);
                order.add(next);
            }
            return order;
        }

        int[] values() {
            int[] is = base.clone();
            for (Card c : layersInOrder()) {
                int n;
                if (c.kind == 0) {
                    n = is[c.v] + c.a;
                } else if (c.kind == 1) {
                    n = is[c.v] * c.a;
                } else if (c.kind == 2) {
                    n = c.a;
                } else if (c.kind == 3) {
                    n = is[c.w];
                } else {
                    n = is[c.v] + is[c.w];
                }
                is[c.v] = hold(n, -99, 99);
            }
            return is;
        }

        boolean lost() {
            return life[0] <= 0 || life[1] <= 0;
        }

        int worth(int player) {
            return life[player] - life[1 - player];
        }

        void replace(Happening e) {
            while (true) {
                Card with = null;
                for (Card c : tableByAge()) {
                    boolean fits = c.isReplacer() && !e.used.contains(c.number) && c.v == e.type
                        && (c.kind == 5 || c.kind == 8 || c.owner == e.player);
                    if (fits && with == null) {
                        with = c;
                    }
                }
                if (with == null) {
                    return;
                }
                e.used.add(with.number);
                if (with.kind == 5) {
                    e.amount = hold(e.amount * 2, 0, 99);
                } else if (with.kind == 6) {
                    e.player = 1 - e.player;
                } else if (with.kind == 7) {
                    e.amount = hold(e.amount - with.a, 0, 99);
                } else {
                    e.type = with.w % 3;
                }
            }
        }

        /** The number a draw below n gives; moves the seed. */
        int drawnBelow(int n) {
            seed = seed * 1103515245 + 12345;
            return (int) ((seed & 0xffffffffL) / 65536L % n);
        }

        void happen(Happening e, List<Integer> told) {
            replace(e);
            told.add(e.code());
            if (e.type == 1) {
                life[e.player] = Math.max(-99, life[e.player] - e.amount);
            } else if (e.type == 2) {
                life[e.player] = Math.min(99, life[e.player] + e.amount);
            } else {
                for (int i = 0; i < e.amount; i++) {
                    List<Card> deck = in(Place.DECK, e.player);
                    if (deck.isEmpty()) {
                        life[e.player] = Math.max(-99, life[e.player] - 1);
                    } else {
                        deck.get(drawnBelow(deck.size())).place = Place.HAND;
                    }
                }
            }
            if (e.amount >= 1) {
                for (Card c : tableByAge()) {
                    if (c.kind == 14 && c.v == e.type && pile.size() < 64) {
                        int on = Math.abs(c.a) % 2 == 1 ? c.owner : 1 - c.owner;
                        pile.add(10000 + new Happening(c.w % 3, on, c.a < 0 ? 0 : c.a).code());
                    }
                }
            }
        }

        void play(Card c) {
            c.place = Place.PILE;
            pile.add(c.number);
        }

        void resolveTop(List<Integer> trace, List<Integer> told) {
            int top = pile.remove(pile.size() - 1);
            trace.add(top);
            if (top >= 10000) {
                happen(new Happening(top % 10000 / 1000, top % 1000 / 100, top % 100), told);
                return;
            }
            Card c = cards.get(top);
            if (!c.isAnswer()) {
                c.place = Place.TABLE;
                c.age = clock++;
                return;
            }
            c.place = Place.GONE;
            switch (c.kind) {
                case 9:
                    happen(new Happening(1, 1 - c.owner, values()[1] + c.a), told);
                    break;
                case 10:
                    happen(new Happening(2, c.owner, values()[2] + c.a), told);
                    break;
                case 11:
                    happen(new Happening(0, c.owner, values()[0] + c.a), told);
                    break;
                case 12:
                    if (!pile.isEmpty()) {
                        int off = pile.remove(pile.size() - 1);
                        if (off < 10000) {
                            cards.get(off).place = Place.GONE;
                        }
                    }
                    break;
                default:
                    Card youngest = null;
                    for (Card d : tableByAge()) {
                        if (d.owner != c.owner) {
                            youngest = d;
                        }
                    }
                    if (youngest != null) {
                        youngest.place = Place.GONE;
                    }
            }
        }

        String allAsItIs() {
            StringBuilder b = new StringBuilder();
            b.append(life[0]).append(' ').append(life[1]).append(' ').append(seed).append('|');
            for (Card c : cards) {
                b.append(c.place.ordinal());
            }
            b.append('|');
            for (Card c : tableByAge()) {
                b.append(c.number).append(',');
            }
            return b.append(pile).toString();
        }

        Outcome run() {
            Outcome o = new Outcome();
            Map<String, Integer> seen = new HashMap<>();
            while (true) {
                if (lost()) {
                    o.end = 1;
                    return o;
                }
                if (pile.isEmpty()) {
                    o.end = 0;
                    return o;
                }
                Integer before = seen.put(allAsItIs(), o.times);
                if (before != null) {
                    o.end = 2;
                    o.earlier = before;
                    o.between = o.times - before;
                    return o;
                }
                if (o.times == 200) {
                    o.end = 3;
                    return o;
                }
                resolveTop(o.trace, o.told);
                o.times++;
            }
        }

        void turn() {
            Happening e = new Happening(0, active, values()[0]);
            happen(e, new ArrayList<>());
            while (in(Place.HAND, active).size() > Math.max(0, values()[3])) {
                List<Card> hand = in(Place.HAND, active);
                hand.get(hand.size() - 1).place = Place.GONE;
            }
            active = 1 - active;
            turns++;
        }
    }

    static final class Outcome {
        int end = 0, times = 0, earlier = NOT, between = NOT;
        List<Integer> trace = new ArrayList<>();
        List<Integer> told = new ArrayList<>();
    }

    World now = new World();
    World kept = null;
    Outcome latestRun = new Outcome();
    List<Integer> trace = new ArrayList<>();
    List<Integer> told = new ArrayList<>();
    StringBuilder tape = new StringBuilder();
    int[] handles = {-1, -1, -1, -1, -1, -1, -1, -1};

    Card cardOf(int n) {
        return n >= 0 && n < now.cards.size() ? now.cards.get(n) : null;
    }

    static boolean in(int n, int least, int most) {
        return n >= least && n <= most;
    }

    int card(int kind, int owner, int vw, int a) {
        if (!in(kind, 0, 14) || !in(owner, 0, 1) || !in(vw, 0, 33) || vw % 10 > 3 || !in(a, -9, 9)) {
            return BAD;
        }
        if (now.cards.size() == 24) {
            return FULL;
        }
        now.cards.add(new Card(now.cards.size(), kind, owner, vw / 10, vw % 10, a));
        return now.cards.size() - 1;
    }

    int feed(int letter) {
        if (!in(letter, 0, 255)) {
            return BAD;
        }
        if (tape.length() == 120) {
            return FULL;
        }
        tape.append((char) letter);
        return tape.length();
    }

    static final String LINE = "(" + String.join("|", WORDS) + ") [01] [0-3] [0-3] -?[0-9]";

    /** Whether some TEXT begins so: tried with all ends that the grammar could need. */
    static boolean goesOn(String begin) {
        java.util.regex.Matcher m = java.util.regex.Pattern.compile(LINE + "(;" + LINE + ")*").matcher(begin);
        return m.matches() || m.hitEnd();
    }

    int deck() {
        String text = tape.toString();
        tape.setLength(0);
        for (int i = 1; i <= text.length(); i++) {
            if (!goesOn(text.substring(0, i))) {
                return -100 - (i - 1);
            }
        }
        if (!text.matches(LINE + "(;" + LINE + ")*")) {
            return -100 - text.length();
        }
        String[] lines = text.split(";");
        if (now.cards.size() + lines.length > 24) {
            return FULL;
        }
        for (String line : lines) {
            String[] parts = line.split(" ");
            int kind = java.util.Arrays.asList(WORDS).indexOf(parts[0]);
            card(kind, Integer.parseInt(parts[1]), Integer.parseInt(parts[2] + parts[3]), Integer.parseInt(parts[4]));
        }
        return lines.length;
    }

    int of(int n, int what) {
        Card c = cardOf(n);
        if (c == null || !in(what, 0, 6)) {
            return BAD;
        }
        int age = c.place == Place.TABLE ? c.age : NOT;
        return new int[] {c.kind, c.owner, c.v, c.w, c.a + 10, c.place.ordinal(), age}[what];
    }

    int deal(int n) {
        Card c = cardOf(n);
        if (c == null) {
            return BAD;
        }
        if (c.place != Place.DECK) {
            return STATE;
        }
        c.place = Place.HAND;
        return 1;
    }

    int base(int value, int n) {
        if (!in(value, 0, 3) || !in(n, -99, 99)) {
            return VOID;
        }
        int was = now.base[value];
        now.base[value] = n;
        return was;
    }

    int mend(int player, int n) {
        if (!in(player, 0, 1) || !in(n, -99, 99)) {
            return VOID;
        }
        int was = now.life[player];
        now.life[player] = n;
        return was;
    }

    int player(int player, int what) {
        if (!in(player, 0, 1) || !in(what, 0, 4)) {
            return VOID;
        }
        if (what == 0) {
            return now.life[player];
        }
        Place[] asked = {null, Place.DECK, Place.HAND, Place.TABLE, Place.GONE};
        return now.in(asked[what], player).size();
    }

    int value(int value) {
        return in(value, 0, 3) ? now.values()[value] : VOID;
    }

    int layer(int i) {
        if (i < 0) {
            return BAD;
        }
        List<Card> order = now.layersInOrder();
        return i < order.size() ? order.get(i).number : NOT;
    }

    int depends(int one, int other) {
        Card c = cardOf(one);
        Card d = cardOf(other);
        if (c == null || d == null || c == d || !c.isLayer() || !d.isLayer()
            || c.place != Place.TABLE || d.place != Place.TABLE) {
            return BAD;
        }
        return c.dependsOn(d) ? 1 : 0;
    }

    int used(int tpa, int k) {
        if (tpa < 0 || tpa > 2199 || tpa % 1000 > 199 || k < -2) {
            return BAD;
        }
        Happening e = new Happening(tpa / 1000, tpa / 100 % 10, tpa % 100);
        now.replace(e);
        if (k == -1) {
            return e.code();
        }
        if (k == -2) {
            return e.used.size();
        }
        return k < e.used.size() ? e.used.get(k) : NOT;
    }

    int play(int n) {
        Card c = cardOf(n);
        if (c == null) {
            return BAD;
        }
        if (c.place != Place.HAND) {
            return STATE;
        }
        if (now.pile.size() == 64) {
            return FULL;
        }
        now.play(c);
        return now.pile.size();
    }

    int pile(int i) {
        if (i < 0) {
            return BAD;
        }
        return i < now.pile.size() ? now.pile.get(now.pile.size() - 1 - i) : NOT;
    }

    int resolve() {
        if (now.pile.isEmpty()) {
            return STATE;
        }
        trace = new ArrayList<>();
        told = new ArrayList<>();
        now.resolveTop(trace, told);
        return now.pile.size();
    }

    int run() {
        latestRun = now.run();
        trace = latestRun.trace;
        told = latestRun.told;
        return latestRun.times;
    }

    int ended(int what) {
        if (!in(what, 0, 2)) {
            return BAD;
        }
        return new int[] {latestRun.end, latestRun.earlier, latestRun.between}[what];
    }

    int turn() {
        if (!now.pile.isEmpty() || now.lost()) {
            return STATE;
        }
        now.turn();
        return now.active;
    }

    int dry(int what) {
        if (!in(what, 0, 3)) {
            return VOID;
        }
        World then = now.copy();
        Outcome o = then.run();
        return new int[] {o.end, o.times, then.life[0], then.life[1]}[what];
    }

    static World played(World from, int n) {
        World then = from.copy();
        if (n >= 0) {
            then.play(then.cards.get(n));
        }
        then.run();
        return then;
    }

    int worth(int n) {
        Card c = cardOf(n);
        if (c == null || c.place != Place.HAND || now.pile.size() == 64) {
            return VOID;
        }
        return played(now, n).worth(c.owner);
    }

    int best(int player, int what) {
        if (!in(player, 0, 1) || !in(what, 0, 1)) {
            return VOID;
        }
        int most = played(now, -1).worth(player);
        int which = NOT;
        if (now.pile.size() < 64) {
            for (Card c : now.in(Place.HAND, player)) {
                int w = worth(c.number);
                if (w > most) {
                    most = w;
                    which = c.number;
                }
            }
        }
        return what == 0 ? which : most;
    }

    int byTurns(int n) {
        return in(n, 1, 3) ? reach(now, now.active, n) : VOID;
    }

    private int reach(World from, int player, int n) {
        if (n == 0) {
            return from.worth(now.active);
        }
        List<Integer> results = new ArrayList<>();
        results.add(reach(played(from, -1), 1 - player, n - 1));
        List<Card> hand = from.in(Place.HAND, player);
        for (int i = 0; i < Math.min(3, hand.size()) && from.pile.size() < 64; i++) {
            results.add(reach(played(from, hand.get(i).number), 1 - player, n - 1));
        }
        return player == now.active ? java.util.Collections.max(results) : java.util.Collections.min(results);
    }

    private World without(int n, Outcome[] came) {
        World then = now.copy();
        if (n >= 0) {
            then.cards.get(n).place = Place.GONE;
        }
        came[0] = then.run();
        return then;
    }

    /** Whether MATTER is the same if a LOOP of other numbers is another end: the document leaves it open. */
    boolean matterIsPlain() {
        Outcome[] plain = new Outcome[1];
        without(-1, plain);
        for (Card c : now.tableByAge()) {
            Outcome[] other = new Outcome[1];
            without(c.number, other);
            boolean otherNumbers = other[0].earlier != plain[0].earlier || other[0].between != plain[0].between;
            if (other[0].end == plain[0].end && otherNumbers) {
                return false;
            }
        }
        return true;
    }

    int matter() {
        Outcome[] plain = new Outcome[1];
        World with = without(-1, plain);
        int bits = 0;
        for (Card c : now.tableByAge()) {
            Outcome[] other = new Outcome[1];
            World then = without(c.number, other);
            if (other[0].end != plain[0].end || then.life[0] != with.life[0] || then.life[1] != with.life[1]) {
                bits |= 1 << c.number;
            }
        }
        return bits;
    }

    int swing(int n) {
        Card c = cardOf(n);
        if (c == null || c.place != Place.TABLE) {
            return VOID;
        }
        return without(-1, new Outcome[1]).worth(c.owner) - without(n, new Outcome[1]).worth(c.owner);
    }

    int next(int player) {
        if (!in(player, 0, 1)) {
            return BAD;
        }
        World then = now.copy();
        List<Card> deck = then.in(Place.DECK, player);
        return deck.isEmpty() ? NOT : deck.get(then.drawnBelow(deck.size())).number;
    }

    int ahead(int n, int what) {
        if (!in(n, 1, 9) || !in(what, 0, 4)) {
            return VOID;
        }
        World then = now.copy();
        int done = 0;
        while (done < n && !then.lost() && then.pile.isEmpty()) {
            then.turn();
            then.run();
            done++;
        }
        return new int[] {done, then.life[0], then.life[1], then.in(Place.HAND, 0).size(),
            then.in(Place.HAND, 1).size()}[what];
    }

    int trace(int which, int i) {
        if (!in(which, 0, 1) || i < 0) {
            return BAD;
        }
        List<Integer> row = which == 0 ? trace : told;
        return i < row.size() && i < 40 ? row.get(i) : NOT;
    }

    int seed(int v) {
        int was = now.seed;
        now.seed = v;
        return was;
    }

    int image() {
        kept = now.copy();
        return kept.cards.size();
    }

    int back() {
        if (kept == null) {
            return STATE;
        }
        now = kept.copy();
        for (int i = 0; i < 8; i++) {
            if (handles[i] >= now.cards.size()) {
                handles[i] = -1;
            }
        }
        return now.cards.size();
    }

    int hold(int handle, int n) {
        if (!in(handle, 0, 7) || (n != -1 && cardOf(n) == null)) {
            return BAD;
        }
        handles[handle] = n;
        return 1;
    }

    int tells(int handle, int family) {
        if (!in(handle, 0, 7) || !in(family, 0, 4)) {
            return BAD;
        }
        Card c = cardOf(handles[handle]);
        if (c == null) {
            return -11;
        }
        boolean[] isOf = {true, c.isLayer(), c.isReplacer(), c.isAnswer(), c.kind == 14};
        if (!isOf[family]) {
            return -12;
        }
        if (family == 0) {
            return 100 + c.kind;
        }
        int[] tells = {10 + c.a, 10 * c.a, c.a, 20, 30, 20, 10, 10 - c.a, 10, c.a, c.a, c.a, c.a, c.a, c.v * 4 + c.w};
        return 100 + tells[c.kind];
    }

    int count(int what) {
        switch (what) {
            case 0: return now.cards.size();
            case 1: return now.pile.size();
            case 2: return now.tableByAge().size();
            case 3: return now.in(Place.GONE, 0).size() + now.in(Place.GONE, 1).size();
            case 4: return tape.length();
            case 5: return now.clock;
            case 6: return now.turns;
            case 7: return now.active;
            case 8: return (now.life[0] <= 0 ? 1 : 0) + (now.life[1] <= 0 ? 2 : 0);
            default: return BAD;
        }
    }
}
