/** Promises 19 to 25: letter, accepts, isAgreed, words, shortest, shortestLetter, differs. */
final class WordTests {
    // x: an odd number of letters a and then no b; y: words that end with "ab".
    private static final String TEXT = "letters 2;machine x 90 1 2 listens;machine y 90 1 3 listens;"
        + "go x 0 a 1;go x 1 a 0;go x 1 b 1;go x 0 b 0;accept x 1;"
        + "go y 0 a 1;go y 0 b 0;go y 1 a 1;go y 1 b 2;go y 2 a 1;go y 2 b 0;accept y 2;turn 20 1;";

    private WordTests() {
    }

    static void run() {
        letter();
        accepts();
        acceptsWithoutStrengths();
        isAgreed();
        words();
        shortest();
        longShortest();
        mostStatesTogether();
        firstInAlphabet();
        differs();
    }

    private static void letter() {
        LetterAuction x = Check.of(TEXT);
        Check.same("letter(0) of no word", -1, x.letter(0));
        x.buy(0, 1);
        x.buy(0, 0);
        Check.same("letter(0)", 1, x.letter(0));
        Check.same("letter(1)", 0, x.letter(1));
        Check.same("letter(2)", -1, x.letter(2));
        Check.same("letter(-1)", -1, x.letter(-1));
        Check.same("letter(60)", -1, x.letter(60));
        Check.same("letter(greatest)", -1, x.letter(Integer.MAX_VALUE));
        Check.same("letter(least)", -1, x.letter(Integer.MIN_VALUE));
        for (int n = 3; n <= 60; n++) {
            x.buy(n % 2, 0);
        }
        Check.same("letter(59)", 0, x.letter(59));
        Check.same("letter(60) of a full word", -1, x.letter(60));
    }

    private static void accepts() {
        LetterAuction x = Check.of(TEXT);
        Check.no("x accepts no letters", x.accepts(0));
        x.buy(0, 0);
        Check.yes("x accepts a", x.accepts(0));
        Check.no("y accepts a", x.accepts(1));
        x.buy(1, 1);
        Check.yes("x accepts ab", x.accepts(0));
        Check.yes("y accepts ab", x.accepts(1));
        Check.raisesIndex("accepts(2)", () -> x.accepts(2));
        Check.raisesIndex("accepts(-1)", () -> x.accepts(-1));
        LetterAuction empty = Check.of("letters 1;machine x 1 1 1;accept x 0;");
        Check.yes("the empty word", empty.accepts(0));
    }

    private static void acceptsWithoutStrengths() {
        // y does not listen, so that its state is not where the word leads.
        LetterAuction x = Check.of("letters 2;machine x 50 1 1;machine y 50 1 2;go x 0 a 0;go x 0 b 0;accept x 0;"
            + "go y 0 a 1;go y 1 a 1;accept y 1;tire y 1 1;turn 20 0;");
        x.buy(0, 0);
        x.buy(0, 0);
        Check.same("y is in state 0", 0, x.machine(1, 0));
        Check.yes("but it accepts aa, for which its state would be too tired", x.accepts(1));
        x.buy(0, 1);
        Check.no("y has no way by b", x.accepts(1));
        x.buy(0, 0);
        Check.no("nor behind it", x.accepts(1));
        x.reset(0);
        Check.yes("a reset plays no part", x.accepts(0));
    }

    private static void isAgreed() {
        Check.no("without machines", new LetterAuction().isAgreed());
        LetterAuction x = Check.of(TEXT);
        Check.no("none", x.isAgreed());
        x.buy(0, 0);
        Check.no("one of two", x.isAgreed());
        x.buy(0, 1);
        Check.yes("both", x.isAgreed());
        x.reset(1);
        Check.no("their states count", x.isAgreed());
        Check.yes("not the word", x.accepts(1));
        Check.no("the first alone does not accept", Check.of("letters 1;machine x 1 1 1;machine y 1 1 1;accept y 0;").isAgreed());
        Check.no("the last alone does not accept", Check.of("letters 1;machine x 1 1 1;machine y 1 1 1;accept x 0;").isAgreed());
        Check.yes("a state that accepts at first", Check.of("letters 1;machine x 1 1 1;accept x 0;").isAgreed());
    }

    private static void words() {
        LetterAuction x = Check.of(TEXT);
        Check.same("words(1, 0)", 0, x.words(1, 0));
        Check.same("words(1, 1)", 1, x.words(1, 1));
        Check.same("words(1, 20)", 1L << 19, x.words(1, 20));
        Check.same("words(2, 1)", 0, x.words(2, 1));
        Check.same("words(2, 2)", 1, x.words(2, 2));
        Check.same("words(2, 20)", 1L << 18, x.words(2, 20));
        Check.same("words(3, 2)", 1, x.words(3, 2));
        Check.same("words(3, 20)", 1L << 17, x.words(3, 20));
        Check.same("words(0, 0)", 1, x.words(0, 0));
        Check.same("words(0, 20)", 1L << 20, x.words(0, 20));
        Check.raisesIndex("words(4, 0)", () -> x.words(4, 0));
        Check.raisesIndex("words(5, 0)", () -> x.words(5, 0));
        Check.raisesIndex("words(-1, 0)", () -> x.words(-1, 0));
        Check.raisesIndex("words(least, 0)", () -> x.words(Integer.MIN_VALUE, 0));
        Check.raisesIndex("words(4, 21): the bits are checked first", () -> x.words(4, 21));
        Check.raisesArgument("words(1, 21)", () -> x.words(1, 21));
        Check.raisesArgument("words(1, -1)", () -> x.words(1, -1));
        LetterAuction none = new LetterAuction();
        Check.same("one letter, without machines", 1, none.words(0, 20));
        Check.raisesIndex("words(1, 1) without machines", () -> none.words(1, 1));
        LetterAuction all = Check.of("letters 4;machine x 1 1 1;machine y 1 1 1;machine z 1 1 1;machine w 1 1 1;"
            + "go x 0 a 0;go x 0 b 0;go x 0 c 0;go x 0 d 0;accept x 0;go y 0 a 0;accept y 0;accept z 0;go w 0 a 0;");
        Check.same("all words", 1L << 40, all.words(1, 20));
        Check.same("words of a alone", 1, all.words(3, 20));
        Check.same("the empty word alone", 1, all.words(7, 0));
        Check.same("no longer one", 0, all.words(7, 1));
        Check.same("no word", 0, all.words(15, 0));
        Check.raisesIndex("words(16, 0)", () -> all.words(16, 0));
        // Strengths play no part.
        LetterAuction tired = Check.of("letters 1;machine x 9 1 1;go x 0 a 0;accept x 0;tire x 0 1;");
        tired.play(1);
        Check.same("words of a tired machine", 1, tired.words(1, 9));
        Check.same("shortest of a tired machine", 0, tired.shortest(1));
    }

    private static void shortest() {
        LetterAuction x = Check.of(TEXT);
        Check.same("shortest(0)", 0, x.shortest(0));
        Check.same("shortest(1)", 1, x.shortest(1));
        Check.same("shortest(2)", 2, x.shortest(2));
        Check.same("shortest(3)", 2, x.shortest(3));
        Check.raisesIndex("shortest(4)", () -> x.shortest(4));
        Check.raisesIndex("shortest(-1)", () -> x.shortest(-1));
        Check.same("shortestLetter(3, 0)", 0, x.shortestLetter(3, 0));
        Check.same("shortestLetter(3, 1)", 1, x.shortestLetter(3, 1));
        Check.same("shortestLetter(3, 2)", -1, x.shortestLetter(3, 2));
        Check.same("shortestLetter(3, -1)", -1, x.shortestLetter(3, -1));
        Check.same("shortestLetter(3, least)", -1, x.shortestLetter(3, Integer.MIN_VALUE));
        Check.same("shortestLetter(0, 0)", -1, x.shortestLetter(0, 0));
        Check.raisesIndex("shortestLetter(4, 0)", () -> x.shortestLetter(4, 0));
        Check.raisesIndex("shortestLetter(-1, -1)", () -> x.shortestLetter(-1, -1));
        LetterAuction none = Check.of("letters 1;machine x 1 1 2;machine y 1 1 1;go x 0 a 1;accept x 1;accept y 0;");
        Check.same("no word together", -1, none.shortest(3));
        Check.same("no letter of it", -1, none.shortestLetter(3, 0));
        Check.same("nor before it", -1, none.shortestLetter(3, -1));
        Check.same("the empty word", 0, none.shortest(2));
        Check.same("no letter of the empty word", -1, none.shortestLetter(2, 0));
    }

    private static void longShortest() {
        // Rings of 6, 5 and 4 states agree first after 59 letters, those of 3 states come with it.
        StringBuilder text = new StringBuilder("letters 1;");
        String[] names = {"x", "y", "z", "w"};
        int[] states = {6, 5, 4, 3};
        for (int m = 0; m < 4; m++) {
            text.append("machine ").append(names[m]).append(" 1 1 ").append(states[m]).append(';');
        }
        for (int m = 0; m < 4; m++) {
            for (int state = 0; state < states[m]; state++) {
                text.append("go ").append(names[m]).append(' ').append(state).append(" a ");
                text.append((state + 1) % states[m]).append(';');
            }
            text.append("accept ").append(names[m]).append(' ').append(states[m] - 1).append(';');
        }
        LetterAuction x = Check.of(text.toString());
        Check.same("rings of 6, 5, 4 and 3", 59, x.shortest(15));
        Check.same("its last letter", 0, x.shortestLetter(15, 58));
        Check.same("behind its last letter", -1, x.shortestLetter(15, 59));
        Check.same("rings of 6 and 5", 29, x.shortest(3));
        Check.same("rings of 5 and 3", 14, x.shortest(10));
        Check.same("rings of 6 and 4", 11, x.shortest(5));
        Check.same("rings of 6 and 4 differ", 3, x.differs(0, 2));
    }

    /** Four machines of six states, which come to all 1296 states together; the accepting one is the last of them. */
    private static void mostStatesTogether() {
        String[] targets = {"450213", "521430", "013425", "324510", "352410", "531420", "125034", "204153"};
        String accepting = "0515";
        StringBuilder text = new StringBuilder("letters2;");
        for (int m = 0; m < 4; m++) {
            text.append("machine ").append("pqrs".charAt(m)).append("1 1 6;");
        }
        for (int m = 0; m < 4; m++) {
            for (int state = 0; state < 6; state++) {
                for (int letter = 0; letter < 2; letter++) {
                    text.append("go ").append("pqrs".charAt(m)).append(state).append("ab".charAt(letter));
                    text.append(targets[m * 2 + letter].charAt(state)).append(';');
                }
            }
            text.append("accept ").append("pqrs".charAt(m)).append(accepting.charAt(m)).append(';');
        }
        LetterAuction x = Check.of(text.toString());
        NaiveAuction y = new NaiveAuction();
        StringBuilder padded = new StringBuilder(text);
        while (padded.length() % 20 != 0) {
            padded.append(' ');
        }
        for (int at = 0; at < padded.length(); at += 20) {
            y.append(padded.substring(at, at + 20));
        }
        Check.same("the naive one parses it", 0, y.parse(text.length()));
        Check.same("the farthest state", 18, x.shortest(15));
        for (int k = 0; k <= 18; k++) {
            Check.same("letter " + k + " on the way to it", y.shortestLetter(15, k), x.shortestLetter(15, k));
        }
        for (int length = 0; length <= 20; length++) {
            for (int set = 0; set <= 15; set++) {
                Check.same("words(" + set + ", " + length + ")", y.words(set, length), x.words(set, length));
            }
        }
        for (int pair = 0; pair < 16; pair++) {
            Check.same("differs of pair " + pair, y.differs(pair / 4, pair % 4), x.differs(pair / 4, pair % 4));
        }
    }

    private static void firstInAlphabet() {
        // Shortest words of x: bba, bab, cab; the first is bab, though bba is met by the lower states.
        LetterAuction x = Check.of("letters 3;machine x 1 1 6;go x 0 b 1;go x 1 b 2;go x 2 a 5;go x 1 a 3;go x 3 b 5;"
            + "go x 0 c 4;go x 4 a 3;accept x 5;");
        Check.same("length", 3, x.shortest(1));
        int[] due = {1, 0, 1, -1};
        for (int k = 0; k < due.length; k++) {
            Check.same("letter " + k, due[k], x.shortestLetter(1, k));
        }
        // A longer word that comes first in the alphabet is not the shortest.
        LetterAuction y = Check.of("letters 2;machine x 1 1 3;go x 0 a 1;go x 1 a 2;go x 0 b 2;accept x 2;");
        Check.same("b, not aa", 1, y.shortest(1));
        Check.same("b", 1, y.shortestLetter(1, 0));
    }

    private static void differs() {
        LetterAuction x = Check.of(TEXT);
        Check.same("a: x accepts it alone", 1, x.differs(0, 1));
        Check.same("the same in the other order", 1, x.differs(1, 0));
        Check.same("x and itself", -1, x.differs(0, 0));
        Check.raisesIndex("differs(0, 2)", () -> x.differs(0, 2));
        Check.raisesIndex("differs(2, 0)", () -> x.differs(2, 0));
        Check.raisesIndex("differs(2, 2)", () -> x.differs(2, 2));
        Check.raisesIndex("differs(-1, 0)", () -> x.differs(-1, 0));
        Check.raisesIndex("differs(0, -1)", () -> x.differs(0, -1));
        // p and q accept the same with other states; r accepts a word less; s nothing at all.
        LetterAuction y = Check.of("letters 2;machine p 1 1 1;machine q 1 1 3;machine r 1 1 5;machine s 1 1 1;"
            + "go p 0 a 0;accept p 0;go q 0 a 1;go q 1 a 0;go q 0 b 2;go q 2 a 2;accept q 0;accept q 1;"
            + "go r 0 a 1;go r 1 a 2;go r 2 a 3;accept r 0;accept r 1;accept r 2;accept r 3;go s 0 a 0;go s 0 b 0;");
        Check.same("p and q accept the same", -1, y.differs(0, 1));
        Check.same("p and r differ when r comes to its end", 4, y.differs(0, 2));
        Check.same("r and p", 4, y.differs(2, 0));
        Check.same("q and r", 4, y.differs(1, 2));
        Check.same("r and s differ in the empty word", 0, y.differs(2, 3));
        Check.same("s and p", 0, y.differs(3, 0));
    }
}
