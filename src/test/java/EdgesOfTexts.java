/** Promises 3 and 4: THE TAPE, its TEXT, and the FAULT of one: each boundary has a test of its own. */
public final class EdgesOfTexts {
    private static final Checks checks = new Checks("EdgesOfTexts");
    private static final int BAD = Games.BAD, FULL = Games.FULL, LOW = Games.LOW, HIGH = Games.HIGH;
    private static final String[] WORDS = {"add", "times", "set", "like", "more", "twice", "away", "less", "turn",
        "strike", "heal", "fetch", "stop", "clear", "echo"};
    private static final String LINE = "add 1 2 3 4", LONGER = "echo 1 2 3 4";

    private static void due(String call, long got, long want) {
        checks.due(call, got, want);
    }

    /** 3: "A byte (0 .. 255)". */
    private static void letters() {
        LayeredCards x = new LayeredCards();
        int there = 0;
        for (int letter = -20; letter <= 300; letter++) {
            if (there == 120) {
                x = new LayeredCards();
                there = 0;
            }
            boolean right = letter >= 0 && letter <= 255;
            due("feed(" + letter + ")", x.feed(letter), right ? ++there : BAD);
            due("bytes", x.count(4), there);
        }
        int[] far = {LOW, HIGH, LOW + 1, 65536, -65536, 1 << 24};
        for (int letter : far) {
            due("feed(" + letter + ")", x.feed(letter), BAD);
        }
    }

    /** "how many it has. BAD, FULL (120)". */
    private static void roomOnTheTape() {
        LayeredCards x = Games.withBytes(119);
        due("the 120th", x.feed('a'), 120);
        due("a 121st", x.feed('a'), FULL);
        due("there are 120", x.count(4), 120);
        due("BAD ahead of FULL", x.feed(-1), BAD);
        due("BAD ahead of FULL", x.feed(256), BAD);
    }

    /** A byte that had no room is not there. */
    private static void fullTapeStaysAsItWas() {
        LayeredCards x = new LayeredCards();
        Games.feedText(x, (LINE + ";").repeat(9) + LONGER);
        due("120 bytes", x.count(4), 120);
        due("one more", x.feed(';'), FULL);
        due("the text is as it was", x.deck(), 10);
    }

    /** A byte that is none comes to no place of THE TAPE. */
    private static void badByteStaysAway() {
        LayeredCards x = new LayeredCards();
        Games.feedText(x, "add 1 2");
        x.feed(256 + ' ');
        x.feed(-1);
        Games.feedText(x, " 3 4");
        due("the text", x.deck(), 1);
        due("its w", x.of(0, 3), 3);
    }

    /** 4: "THE TAPE is empty then in any case": a TEXT, a FAULT, FULL, nothing. */
    private static void emptyThen() {
        LayeredCards x = new LayeredCards();
        Games.feedText(x, LINE);
        x.deck();
        due("behind a text", x.count(4), 0);
        due("a text again", Games.deckOf(x, LINE), 1);
        Games.feedText(x, LINE + "x");
        x.deck();
        due("behind a fault", x.count(4), 0);
        due("a text again", Games.deckOf(x, LINE), 1);
        LayeredCards full = Games.withCards(24);
        Games.feedText(full, LINE);
        due("full", full.deck(), FULL);
        due("behind full", full.count(4), 0);
        due("of nothing then", full.deck(), -100);
        due("behind nothing", full.count(4), 0);
        due("a byte comes again", full.feed('a'), 1);
    }

    private static void emptyBehindAFullTape() {
        LayeredCards x = Games.withBytes(120);
        due("a fault", x.deck(), -101);
        due("none is there", x.count(4), 0);
        for (int n = 1; n <= 120; n++) {
            due("feed again", x.feed('b'), n);
        }
        due("full again", x.feed('b'), FULL);
    }

    /** "A DECK is a TEXT by THE TAPE (at most 120 bytes): LINES, one or more, parted by ;". */
    private static void longestTexts() {
        LayeredCards x = new LayeredCards();
        due("a text of 119", Games.deckOf(x, (LINE + ";").repeat(9) + LINE), 10);
        due("a text of 120", Games.deckOf(x, (LINE + ";").repeat(9) + LONGER), 10);
        due("the last one", x.of(19, 0), Games.ECHO);
        due("its a", x.of(19, 4), 14);
        due("the shortest", Games.deckOf(x, LINE), 1);
    }

    private static void lateFaults() {
        LayeredCards x = new LayeredCards();
        String nine = (LINE + ";").repeat(9);
        due("the last of 119 bytes", Games.deckOf(x, nine + "add 1 2 3 x"), -218);
        due("119, ends too early", Games.deckOf(x, nine + "add 1 2 3 -"), -219);
        due("the last of 120 bytes", Games.deckOf(x, nine + LINE + "x"), -219);
        due("no cards", x.count(0), 0);
    }

    /** "All become CARDS, or, if there is no room for all of them, none." */
    private static void roomForAll() {
        String two = LINE + ";" + LONGER;
        LayeredCards x = Games.withCards(22);
        due("two, room for two", Games.deckOf(x, two), 2);
        due("the 24th", x.of(23, 0), Games.ECHO);
        due("one, room for none", Games.deckOf(x, LINE), FULL);
        LayeredCards y = Games.withCards(23);
        due("two, room for one", Games.deckOf(y, two), FULL);
        due("none came", y.count(0), 23);
        due("no 24th", y.of(23, 0), BAD);
        due("one, room for one", Games.deckOf(y, LONGER), 1);
        due("it came", y.of(23, 0), Games.ECHO);
        LayeredCards z = Games.withCards(14);
        due("ten, room for ten", Games.deckOf(z, (LINE + ";").repeat(9) + LINE), 10);
        LayeredCards w = Games.withCards(15);
        due("ten, room for nine", Games.deckOf(w, (LINE + ";").repeat(9) + LINE), FULL);
        due("none came", w.count(0), 15);
        due("the next number", w.card(0, 0, 0, 0), 15);
    }

    /** "-100 less its FAULT, that is looked at first". */
    private static void faultAheadOfFull() {
        LayeredCards x = Games.withCards(24);
        due("a fault at 0", Games.deckOf(x, "x"), -100);
        due("nothing", x.deck(), -100);
        due("a fault at its end", Games.deckOf(x, LINE + "x"), -111);
        due("ends too early", Games.deckOf(x, LINE + ";"), -112);
        due("full", Games.deckOf(x, LINE), FULL);
    }

    /** "(of a digit that may not be its place)": one below and above what OWNER, v, w, a may be. */
    private static void digits() {
        for (char c = '0' - 1; c <= '9' + 1; c++) {
            boolean digit = c >= '0' && c <= '9';
            field("add " + c + " 0 0 0", 4, c <= '1' && digit, 1, c);
            field("add 0 " + c + " 0 0", 6, c <= '3' && digit, 2, c);
            field("add 0 0 " + c + " 0", 8, c <= '3' && digit, 3, c);
            field("add 0 0 0 " + c, 10, digit, 4, c + 10);
            field("add 0 0 0 -" + c, 11, digit, 4, 10 + '0' - c + '0');
        }
    }

    private static void field(String text, int place, boolean right, int what, int told) {
        LayeredCards x = new LayeredCards();
        due("deck of '" + text + "'", Games.deckOf(x, text), right ? 1 : -100 - place);
        due("its " + what, x.of(0, what), right ? told - '0' : BAD);
    }

    /** "one digit each", "perhaps a - ahead", "one blank ahead of each". */
    private static void noMoreThanOne() {
        LayeredCards x = new LayeredCards();
        due("two digits of OWNER", Games.deckOf(x, "add 00 0 0 0"), -105);
        due("two digits of v", Games.deckOf(x, "add 0 00 0 0"), -107);
        due("two digits of w", Games.deckOf(x, "add 0 0 00 0"), -109);
        due("two digits of a", Games.deckOf(x, "add 0 0 0 00"), -111);
        due("two digits of a below 0", Games.deckOf(x, "add 0 0 0 -10"), -112);
        due("two - ahead", Games.deckOf(x, "add 0 0 0 --1"), -111);
        due("a - ahead of OWNER", Games.deckOf(x, "add -0 0 0 0"), -104);
        due("a - ahead of v", Games.deckOf(x, "add 0 -0 0 0"), -106);
        due("a - ahead of w", Games.deckOf(x, "add 0 0 -0 0"), -108);
        due("a + ahead", Games.deckOf(x, "add 0 0 0 +1"), -110);
        int[] places = {3, 5, 7, 9};
        for (int place : places) {
            String text = "add 0 0 0 0";
            String before = text.substring(0, place);
            due("no blank at " + place, Games.deckOf(x, before + text.substring(place + 1)), -100 - place);
            due("two blanks at " + place, Games.deckOf(x, before + " " + text.substring(place)), -101 - place);
        }
        due("a blank ahead", Games.deckOf(x, " " + LINE), -100);
        due("a blank behind", Games.deckOf(x, LINE + " "), -111);
        due("a blank behind ;", Games.deckOf(x, LINE + "; " + LINE), -112);
        due("a blank ahead of ;", Games.deckOf(x, LINE + " ;" + LINE), -111);
        due("; ahead", Games.deckOf(x, ";" + LINE), -100);
        due("; twice", Games.deckOf(x, LINE + ";;" + LINE), -112);
        due("; behind", Games.deckOf(x, LINE + ";"), -112);
        due("no cards by these", x.count(0), 0);
    }

    /** "the length, if it ends too early": each length of a LINE, of the second one, too. */
    private static void endsTooEarly() {
        for (int kind = 0; kind < 15; kind++) {
            String line = WORDS[kind] + " 1 3 0 -9";
            LayeredCards x = new LayeredCards();
            for (int n = 0; n < line.length(); n++) {
                due("deck of the first " + n + " of " + line, Games.deckOf(x, line.substring(0, n)), -100 - n);
            }
            due("all of it", Games.deckOf(x, line), 1);
            due("its kind", x.of(0, 0), kind);
            LayeredCards y = new LayeredCards();
            for (int n = 0; n < line.length(); n++) {
                int due = n == 0 ? -112 : -112 - n;
                due("deck of a line and " + n + " of " + line, Games.deckOf(y, LINE + ";" + line.substring(0, n)), due);
            }
            due("none came", y.count(0), 0);
        }
    }

    /** THE TAPE is empty behind deck(): nothing of a longer TEXT is read behind a shorter one. */
    private static void nothingIsLeftOfATextBefore() {
        String[] texts = {"strike 1 3 0 -9", "add 0 1 2 3;turn 1 0 3 -4"};
        for (String text : texts) {
            for (int n = text.length() - 1; n >= 0; n--) {
                LayeredCards x = new LayeredCards();
                due("all of it", Games.deckOf(x, text) > 0 ? 1 : 0, 1);
                int there = x.count(0);
                boolean whole = n == text.indexOf(';');
                due("then the first " + n + " of " + text, Games.deckOf(x, text.substring(0, n)), whole ? 1 : -100 - n);
                due("cards", x.count(0), there + (whole ? 1 : 0));
            }
        }
    }

    /** "the first byte with which no TEXT goes on": each byte at each place of each KIND's LINE. */
    private static void everyByteEverywhere() {
        for (String word : WORDS) {
            String line = word + " 0 3 2 -5";
            for (int place = 0; place <= line.length(); place++) {
                LayeredCards x = null;
                for (int letter = 0; letter < 256; letter++) {
                    // an object has 512 calls, and room for 24 CARDS
                    x = letter % 16 == 0 ? new LayeredCards() : x;
                    oneByte(x, line.substring(0, place), letter);
                }
            }
        }
    }

    private static void oneByte(LayeredCards x, String before, int letter) {
        String text = before + (char) letter;
        int due = -100 - text.length();
        if (!goesOn(text)) {
            due = -100 - before.length();
        } else if (text.matches(Model.LINE)) {
            due = 1;
        }
        due("deck of '" + before + "' and byte " + letter, Games.deckOf(x, text), due);
    }

    private static boolean goesOn(String text) {
        return Model.goesOn(text);
    }

    /** What stands behind a FAULT is not looked at. */
    private static void theFirstFault() {
        LayeredCards x = new LayeredCards();
        due("two faults", Games.deckOf(x, "add 2 4 4 x"), -104);
        due("a fault, then a text", Games.deckOf(x, "x;" + LINE), -100);
        due("a text, then a fault", Games.deckOf(x, LINE + ";" + "add 1 2 4 4"), -120);
        due("the text is none, then", x.count(0), 0);
    }

    /** A great letter is no small one; a byte above 127 is none with the same last bits. */
    private static void alikeLetters() {
        LayeredCards x = new LayeredCards();
        due("Add", Games.deckOf(x, "Add 0 0 0 0"), -100);
        due("aDd", Games.deckOf(x, "aDd 0 0 0 0"), -101);
        due("a and 128", Games.deckOf(x, (char) ('a' + 128) + "dd 0 0 0 0"), -100);
        due("0 and 128", Games.deckOf(x, "add " + (char) ('0' + 128) + " 0 0 0"), -104);
        due("a tab", Games.deckOf(x, "add\t0 0 0 0"), -103);
        due("a new line", Games.deckOf(x, LINE + "\n" + LINE), -111);
        due("a byte 0", Games.deckOf(x, LINE + (char) 0), -111);
        due("a first byte 0", Games.deckOf(x, (char) 0 + LINE), -100);
    }

    /** CARDS by a TEXT are numbered behind those that are there, in their order, and are in DECKS. */
    private static void cardsOfTheText() {
        LayeredCards x = Games.withCards(2);
        due("deck", Games.deckOf(x, "strike 0 0 3 9;away 1 3 0 -9;heal 1 1 2 -0"), 3);
        int[][] due = {{9, 0, 0, 3, 19, 0}, {6, 1, 3, 0, 1, 0}, {10, 1, 1, 2, 10, 0}};
        for (int i = 0; i < due.length; i++) {
            for (int what = 0; what < due[i].length; what++) {
                due("of(" + (2 + i) + ", " + what + ")", x.of(2 + i, what), due[i][what]);
            }
        }
        due("in the deck of 1", x.player(1, 1), 3);
        due("cards", x.count(0), 5);
    }

    public static void main(String[] args) {
        letters();
        roomOnTheTape();
        fullTapeStaysAsItWas();
        badByteStaysAway();
        emptyThen();
        emptyBehindAFullTape();
        longestTexts();
        lateFaults();
        roomForAll();
        faultAheadOfFull();
        digits();
        noMoreThanOne();
        endsTooEarly();
        nothingIsLeftOfATextBefore();
        everyByteEverywhere();
        theFirstFault();
        alikeLetters();
        cardsOfTheText();
        checks.close();
    }
}
