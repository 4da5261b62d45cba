/** Promises 19 to 25, and the Description's WORDS, at their boundaries. */
final class WordBoundaries {
    private static final int LEAST = Integer.MIN_VALUE;
    private static final int MOST = Integer.MAX_VALUE;

    // p: an even number of letters a; q: words that end with b; r: at most two letters, all of them b; s: no word.
    private static final String TEXT = "letters 2;machine p 500 1 2;machine q 9 1 2;machine r 9 1 3;machine s 9 1 6;"
        + "go p 0 a 1;go p 1 a 0;go p 0 b 0;go p 1 b 1;accept p 0;go q 0 a 0;go q 0 b 1;go q 1 a 0;go q 1 b 1;accept q 1;"
        + "go r 0 b 1;go r 1 b 2;accept r 0;accept r 1;accept r 2;go s 0 a 0;go s 0 b 0;accept s 5;turn 20 0;";

    private WordBoundaries() {
    }

    static void run() {
        letter();
        accepts();
        acceptsWithoutStrengths();
        isAgreed();
        allWords();
        wordsOfOne();
        wordsTogether();
        wordsOutside();
        shortestOutside();
        shortest();
        shortestLetter();
        firstInAlphabet();
        differs();
        lastLetterOfFour();
        strengthsAndCoinsPlayNoPart();
    }

    private static void letter() {
        LetterAuction x = Check.of("letters 4;machine p 999 1 1;go p 0 a 0;go p 0 b 0;go p 0 c 0;go p 0 d 0;accept p 0;");
        int[] lengths = {0, 1, 2, 59, 60};
        for (int length : lengths) {
            while (x.size(2) < length) {
                x.buy(0, x.size(2) * 7 % 4);
            }
            for (int k = 0; k < length; k++) {
                Sentences.about(19, "Returns the letter");
                Check.same("letter " + k + " of " + length, k * 7 % 4, x.letter(k));
            }
            Sentences.about(19, "NONE if the word has not so many letters, or k is negative.");
            for (int k : new int[] {length, length + 1, 60, 61, MOST, -1, -2, LEAST}) {
                Check.same("letter " + k + " of " + length, -1, x.letter(k));
            }
        }
        Sentences.about(19, "Returns a letter of the word.");
        x.undo();
        Check.same("the letter that was undone", -1, x.letter(59));
        Check.same("the one before it", 58 * 7 % 4, x.letter(58));
    }

    private static void accepts() {
        Sentences.about(20, "Returns whether a machine accepts the word.");
        // p does not listen, but buys all letters; none of the others goes by them.
        LetterAuction x = Check.of(TEXT);
        accepted(x, "the empty word", 1, 0, 1, 0);
        x.buy(0, 1);
        accepted(x, "b", 1, 1, 1, 0);
        x.buy(0, 1);
        accepted(x, "bb", 1, 1, 1, 0);
        x.buy(0, 1);
        accepted(x, "bbb", 1, 1, 0, 0);
        x.buy(0, 0);
        accepted(x, "bbba", 0, 0, 0, 0);
        x.buy(0, 1);
        accepted(x, "bbbab", 0, 1, 0, 0);
        x.buy(0, 0);
        accepted(x, "bbbaba", 1, 0, 0, 0);
        for (int n = 6; n < 60; n++) {
            x.buy(0, n % 3 == 0 ? 1 : 0);
        }
        // Behind the first six letters 18 times baa.
        accepted(x, "60 letters", 1, 0, 0, 0);
        Sentences.about(20, "Throws `IndexOutOfBoundsException` if there is no such machine");
        Check.outsideIndex("accepts of four", 0, 3, x::accepts);
        Check.outsideIndex("accepts of none", 0, -1, new LetterAuction()::accepts);
        Sentences.about(20, "WORDS", "A machine accepts a word if it comes from state 0 by its letters, one after the other, "
            + "to a state that accepts");
        LetterAuction y = Check.of("letters 2;machine p 9 1 2;machine q 9 1 2 listens;go p 0 a 1;go p 0 b 0;go q 0 b 1;"
            + "go q 1 b 1;go q 1 a 0;accept q 0;turn 20 0;");
        y.buy(0, 1);
        y.buy(0, 0);
        Check.yes("by b to 1, by a to 0", y.accepts(1));
        y.reset(0);
        y.buy(0, 0);
        Check.no("there is no way by the last letter, though it is in a state that accepts", y.accepts(1));
    }

    private static void accepted(LetterAuction x, String word, int... due) {
        for (int machine = 0; machine < due.length; machine++) {
            Check.same("accepts(" + machine + ") of " + word, due[machine], x.accepts(machine) ? 1 : 0);
        }
    }

    private static void acceptsWithoutStrengths() {
        Sentences.about(20, "WORDS", "strengths and coins play no part in this.");
        LetterAuction x = Check.of("letters 1;machine p 50 1 1;machine q 0 1 2;machine r 0 1 2 listens;go p 0 a 0;"
            + "go q 0 a 1;go q 1 a 1;accept q 1;tire q 1 1;go r 0 a 1;go r 1 a 1;accept r 1;tire r 1 1;turn 20 0;");
        for (int n = 1; n <= 3; n++) {
            x.buy(0, 0);
            Check.yes("one that did not go, and is in state 0", x.accepts(1));
            Check.yes("one that balked before a tired state", x.accepts(2));
        }
        Check.same("r balked twice", 2, x.machine(2, 6));
        x.reset(2);
        Check.yes("one that was reset", x.accepts(2));
    }

    private static void isAgreed() {
        Sentences.about(21, "Returns whether there are machines, and all of them are in states that accept now.");
        Check.no("without machines", new LetterAuction().isAgreed());
        Check.no("without machines, after a parse", Check.of("letters 4;").isAgreed());
        for (int machines = 1; machines <= 4; machines++) {
            for (int accepting = 0; accepting < 1 << machines; accepting++) {
                StringBuilder text = new StringBuilder("letters 1;");
                for (int m = 0; m < machines; m++) {
                    char name = "pqrs".charAt(m);
                    text.append("machine ").append(name).append(" 0 1 2;accept ").append(name);
                    text.append((accepting >> m & 1) == 1 ? " 0;" : " 1;");
                }
                Check.same("isAgreed of " + machines + ", by " + accepting, accepting == (1 << machines) - 1 ? 1 : 0,
                    Check.of(text.toString()).isAgreed() ? 1 : 0);
            }
        }
        LetterAuction x = Check.of("letters 1;machine p 9 1 2;machine q 9 1 2;go p 0 a 1;go q 0 a 1;accept p 1;"
            + "accept q 1;tire q 1 1;");
        x.buy(0, 0);
        Check.no("one of two", x.isAgreed());
        x.buy(1, 0);
        Check.yes("both, though the one is tired", x.isAgreed());
        x.reset(0);
        Check.no("after a reset", x.isAgreed());
        x.undo();
        Check.yes("after undo", x.isAgreed());
    }

    private static void allWords() {
        Sentences.about(22, "`machines`: a set of machines as bits; without machines all words count");
        for (int letters = 1; letters <= 4; letters++) {
            LetterAuction none = Check.of("letters " + letters + ";");
            LetterAuction some = Check.of("letters " + letters + ";machine p 1 1 1;machine q 1 1 1;");
            long due = 1;
            for (int length = 0; length <= 20; length++) {
                Check.same("words(0, " + length + ") of " + letters + " letters", due, none.words(0, length));
                Check.same("words(0, " + length + ") of " + letters + " letters, with machines", due, some.words(0, length));
                due *= letters;
            }
        }
        Check.same("4 to the 20th", 1099511627776L, Check.of("letters 4;").words(0, 20));
    }

    private static void wordsOfOne() {
        Sentences.about(22, "Counts the words with some letters that some machines together accept.");
        LetterAuction x = Check.of(TEXT);
        int[] ofR = {1, 1, 1, 0, 0};
        for (int length = 0; length <= 20; length++) {
            long half = length == 0 ? 0 : 1L << (length - 1);
            Check.same("an even number of a: " + length, length == 0 ? 1 : half, x.words(1, length));
            Check.same("that end with b: " + length, half, x.words(2, length));
            Check.same("at most two b: " + length, ofR[Math.min(length, 4)], x.words(4, length));
            Check.same("none: " + length, 0, x.words(8, length));
        }
        Sentences.about(22, "Returns the number of words.");
        LetterAuction all = Check.of("letters 4;machine p 1 1 1;go p 0 a 0;go p 0 b 0;go p 0 c 0;go p 0 d 0;accept p 0;");
        Check.same("all words of 20 letters", 1099511627776L, all.words(1, 20));
        Check.same("the empty word", 1, all.words(1, 0));
        Sentences.about(22, "`length`: 0 to 20");
        Check.same("words(3, 0)", 0, x.words(3, 0));
        Check.same("words(3, 20)", 1 << 18, x.words(3, 20));
    }

    private static void wordsTogether() {
        Sentences.about(22, "WORDS", "Machines together accept the words that each of them accepts.");
        LetterAuction x = Check.of(TEXT);
        Check.same("p and q, 1 letter: b", 1, x.words(3, 1));
        Check.same("p and q, 2 letters: bb", 1, x.words(3, 2));
        Check.same("p and q, 3 letters: bbb, aab", 2, x.words(3, 3));
        Check.same("p and q, 10 letters", 256, x.words(3, 10));
        long[] ofThree = {0, 1, 1, 0, 0};
        for (int length = 0; length < ofThree.length; length++) {
            Check.same("p, q and r, " + length + " letters", ofThree[length], x.words(7, length));
            for (int set = 8; set < 16; set++) {
                Check.same("with s none: words(" + set + ", " + length + ")", 0, x.words(set, length));
            }
        }
        Check.same("p and r", 1, x.words(5, 2));
        Check.same("q and r, no letters", 0, x.words(6, 0));
    }

    private static void wordsOutside() {
        Sentences.about(22, "Throws `IndexOutOfBoundsException` if a bit is that of no machine (checked first)");
        for (int machines = 0; machines <= 4; machines++) {
            LetterAuction x = withMachines(machines);
            int all = (1 << machines) - 1;
            Check.same("words(all, 0) of " + machines, 1, x.words(all, 0));
            for (int length : new int[] {0, 20, -1, 21, LEAST, MOST}) {
                Check.outsideIndex("words(set, " + length + ") of " + machines, 0, all, set -> x.words(set, length));
                Check.raisesIndex("words of a machine, and of a bit of no machine", () -> x.words(all + 2, length));
            }
        }
        Sentences.about(22, "Throws `IllegalArgumentException` if length is out of range");
        for (int set = 0; set < 16; set++) {
            int some = set;
            Check.outsideArgument("words(" + set + ", length)", 0, 20, length -> withMachines(4).words(some, length));
        }
        Check.outsideArgument("words(0, length) without machines", 0, 20, length -> new LetterAuction().words(0, length));
    }

    private static void shortestOutside() {
        Sentences.about(23, "Throws `IndexOutOfBoundsException` if a bit is that of no machine");
        for (int machines = 0; machines <= 4; machines++) {
            LetterAuction x = withMachines(machines);
            int all = (1 << machines) - 1;
            Check.same("shortest of all machines of " + machines, 0, x.shortest(all));
            Check.outsideIndex("shortest of " + machines, 0, all, x::shortest);
            Check.raisesIndex("shortest of a machine, and of a bit of no machine", () -> x.shortest(all + 2));
            Check.raisesIndex("shortest of bit 30", () -> x.shortest(1 << 30));
        }
        Sentences.about(24, "Throws `IndexOutOfBoundsException` if a bit is that of no machine");
        for (int machines = 0; machines <= 4; machines++) {
            LetterAuction x = withMachines(machines);
            int all = (1 << machines) - 1;
            for (int k : new int[] {0, -1, LEAST, MOST}) {
                Check.same("shortestLetter of all machines of " + machines, -1, x.shortestLetter(all, k));
                Check.outsideIndex("shortestLetter(set, " + k + ") of " + machines, 0, all, set -> x.shortestLetter(set, k));
                Check.raisesIndex("shortestLetter of a machine, and of a bit of no machine", () -> x.shortestLetter(all + 2, k));
            }
        }
    }

    /** Each machine accepts the empty word alone. */
    private static LetterAuction withMachines(int machines) {
        StringBuilder text = new StringBuilder("letters 2;");
        for (int m = 0; m < machines; m++) {
            text.append("machine ").append("pqrs".charAt(m)).append(" 1 1 1;accept ").append("pqrs".charAt(m)).append(" 0;");
        }
        return Check.of(text.toString());
    }

    private static void shortest() {
        Sentences.about(23, "`machines`: a set of machines as bits; without machines it is 0");
        LetterAuction x = Check.of(TEXT);
        Check.same("shortest(0)", 0, x.shortest(0));
        Check.same("shortest(0) without any machines", 0, new LetterAuction().shortest(0));
        Sentences.about(23, "Returns the length of the shortest word that some machines together accept.");
        int[] due = {0, 0, 1, 1, 0, 0, 1, 1, -1, -1, -1, -1, -1, -1, -1, -1};
        for (int set = 0; set < 16; set++) {
            Check.same("shortest(" + set + ")", due[set], x.shortest(set));
        }
        Sentences.about(23, "Returns the number of letters");
        for (int states = 1; states <= 6; states++) {
            Check.same("to the last of " + states + " states", states - 1, ring(states, 1).shortest(1));
        }
        Check.same("rings of 6 and 5", 29, ring(6, 5).shortest(3));
        Check.same("rings of 6, 5, 4 and 3", 59, ring(6, 5, 4, 3).shortest(15));
        Check.same("rings of 3, 4, 5 and 6", 59, ring(3, 4, 5, 6).shortest(15));
        Check.same("four rings of 6", 5, ring(6, 6, 6, 6).shortest(15));
        Sentences.about(23, "NONE if there is no such word.");
        Check.same("no state accepts", -1, Check.of("letters 1;machine p 1 1 1;go p 0 a 0;").shortest(1));
        Check.same("a state that accepts, but no way to it", -1, Check.of("letters 1;machine p 1 1 2;go p 1 a 0;"
            + "accept p 1;").shortest(1));
        Check.same("rings of 6 and 4 that never agree", -1,
            Check.of(RING + "machine q 1 1 4;go q 0 a 1;go q 1 a 2;go q 2 a 3;go q 3 a 0;accept q 2;").shortest(3));
        Check.same("rings of 6 and 4 that agree", 5,
            Check.of(RING + "machine q 1 1 4;go q 0 a 1;go q 1 a 2;go q 2 a 3;go q 3 a 0;accept q 1;").shortest(3));
    }

    private static final String RING = "letters 1;machine p 1 1 6;go p 0 a 1;go p 1 a 2;go p 2 a 3;go p 3 a 4;"
        + "go p 4 a 5;go p 5 a 0;accept p 5;";

    /** Machines whose states are rings, of which the last states accept. */
    private static LetterAuction ring(int... states) {
        StringBuilder text = new StringBuilder("letters 1;");
        for (int m = 0; m < states.length; m++) {
            char name = "pqrs".charAt(m);
            text.append("machine ").append(name).append(" 1 1 ").append(states[m]).append(";accept ").append(name);
            text.append(' ').append(states[m] - 1).append(';');
            for (int state = 0; state < states[m]; state++) {
                text.append("go ").append(name).append(' ').append(state).append(" a ").append((state + 1) % states[m]).append(';');
            }
        }
        return Check.of(text.toString());
    }

    private static void shortestLetter() {
        Sentences.about(24, "Returns letter k of it");
        LetterAuction x = Check.of("letters 4;machine p 1 1 4;go p 0 d 1;go p 1 a 2;go p 2 c 3;accept p 3;"
            + "machine q 1 1 1;accept q 0;");
        int[] due = {3, 0, 2};
        for (int k = 0; k < due.length; k++) {
            Check.same("shortestLetter(1, " + k + ")", due[k], x.shortestLetter(1, k));
        }
        Sentences.about(24, "`machines`: a set of machines as bits");
        LetterAuction two = Check.of("letters 2;machine p 1 1 2;machine q 1 1 3;go p 0 b 0;go p 0 a 1;go p 1 b 1;accept p 1;"
            + "go q 0 b 1;go q 1 a 2;go q 1 b 2;accept q 1;accept q 2;");
        word(two, 0);
        word(two, 1, 0);
        word(two, 2, 1);
        word(two, 3, 1, 0);
        Sentences.about(24, "NONE if there is no such word, or it has not so many letters, or k is negative.");
        int[] outside = {3, 4, 59, MOST, -1, -2, LEAST};
        for (int k : outside) {
            Check.same("no letter " + k, -1, x.shortestLetter(1, k));
        }
        for (int k : new int[] {0, 1, 2, -1, LEAST, MOST}) {
            Check.same("of the empty word letter " + k, -1, x.shortestLetter(2, k));
            Check.same("without machines letter " + k, -1, x.shortestLetter(0, k));
            Check.same("of no word letter " + k, -1, x.shortestLetter(3, k));
        }
        LetterAuction ring = ring(6, 5);
        Check.same("letter 28 of 29", 0, ring.shortestLetter(3, 28));
        Check.same("letter 29 of 29", -1, ring.shortestLetter(3, 29));
        LetterAuction rings = ring(6, 5, 4, 3);
        Check.same("letter 58 of 59", 0, rings.shortestLetter(15, 58));
        Check.same("letter 59 of 59", -1, rings.shortestLetter(15, 59));
    }

    private static void firstInAlphabet() {
        Sentences.about(24, "Returns a letter of the shortest word that some machines together accept; "
            + "of several such words it is the one that comes first in the alphabet.");
        // All words of three letters that have the letter c somewhere, with one machine more.
        LetterAuction x = Check.of("letters 3;machine p 1 1 6;machine q 1 1 2;go p 0 a 1;go p 0 b 1;go p 0 c 2;"
            + "go p 1 a 3;go p 1 b 3;go p 1 c 4;"
            + "go p 2 a 4;go p 2 b 4;go p 2 c 4;go p 3 c 5;go p 4 a 5;go p 4 b 5;go p 4 c 5;accept p 5;"
            + "go q 0 a 0;go q 0 b 1;go q 0 c 0;go q 1 a 1;go q 1 b 1;go q 1 c 1;accept q 1;");
        word(x, 1, 0, 0, 2);
        word(x, 2, 1);
        // That have a b, too.
        word(x, 3, 0, 1, 2);
        // The first word in the alphabet is not the first by the states that are come to: ab and ba, by 2 and 1.
        LetterAuction y = Check.of("letters 2;machine p 1 1 4;go p 0 a 2;go p 0 b 1;go p 1 a 3;go p 2 b 3;accept p 3;");
        word(y, 1, 0, 1);
        // The shorter word counts more than the alphabet: ba, not aaa.
        LetterAuction z = Check.of("letters 2;machine p 1 1 5;go p 0 a 1;go p 1 a 2;go p 2 a 3;go p 0 b 4;go p 4 a 3;"
            + "accept p 3;");
        word(z, 1, 1, 0);
    }

    private static void word(LetterAuction x, int set, int... due) {
        Check.same("shortest(" + set + ")", due.length, x.shortest(set));
        for (int k = 0; k < due.length; k++) {
            Check.same("shortestLetter(" + set + ", " + k + ")", due[k], x.shortestLetter(set, k));
        }
        Check.same("no more letters", -1, x.shortestLetter(set, due.length));
    }

    private static void differs() {
        Sentences.about(25, "Returns the length of the shortest word that just one of two machines accepts.");
        LetterAuction x = Check.of(TEXT);
        // p and q: the empty word; p and r: bbb; q and s: b; q and r: the empty word.
        int[][] due = {{-1, 0, 2, 0}, {0, -1, 0, 1}, {2, 0, -1, 0}, {0, 1, 0, -1}};
        for (int machine = 0; machine < 4; machine++) {
            for (int other = 0; other < 4; other++) {
                Check.same("differs(" + machine + ", " + other + ")", due[machine][other], x.differs(machine, other));
            }
        }
        Sentences.about(25, "Returns the number of letters");
        for (int states = 1; states <= 5; states++) {
            // Rings of 6 and of some states, of which all but the last accept.
            LetterAuction rings = Check.of(ringOfAll("p", 6) + ringOfAll("q", states).substring(10));
            Check.same("rings of 6 and " + states, states - 1, rings.differs(0, 1));
        }
        Sentences.about(25, "NONE if both accept the same words.");
        LetterAuction same = Check.of(ringOfAll("p", 3) + ringOfAll("q", 3).substring(10)
            + "machine r 1 1 6;go r 0 a 1;go r 1 a 2;go r 2 a 3;go r 3 a 4;go r 4 a 5;go r 5 a 0;accept r 0;accept r 1;"
            + "accept r 3;accept r 4;machine s 1 1 1;");
        Check.same("alike", -1, same.differs(0, 1));
        Check.same("with other states", -1, same.differs(0, 2));
        Check.same("with other states, in the other order", -1, same.differs(2, 1));
        Check.same("with itself", -1, same.differs(3, 3));
        Check.same("with one that accepts nothing", 0, same.differs(3, 0));
        LetterAuction nothing = Check.of("letters 2;machine p 1 1 1;machine q 1 1 2;go q 0 a 1;go q 1 b 0;");
        Check.same("both accept nothing", -1, nothing.differs(0, 1));
        LetterAuction empty = Check.of("letters 1;machine p 1 1 1;machine q 1 1 2;machine r 1 1 2;accept p 0;"
            + "go q 0 a 1;go q 1 a 1;accept q 0;go r 0 a 1;go r 1 a 0;accept r 0;");
        Check.same("both accept the empty word alone, the one comes to its end", -1, empty.differs(0, 1));
        Check.same("the other one goes on, and accepts again", 2, empty.differs(2, 0));
        Sentences.about(25, "Throws `IndexOutOfBoundsException` if one of the machines does not exist");
        Check.outsideIndex("differs(m, 0) of two", 0, 1, m -> nothing.differs(m, 0));
        Check.outsideIndex("differs(0, m) of two", 0, 1, m -> nothing.differs(0, m));
        Check.outsideIndex("differs(m, m) of two", 0, 1, m -> nothing.differs(m, m));
        Check.outsideIndex("differs(m, 3) of four", 0, 3, m -> same.differs(m, 3));
        Check.raisesIndex("differs(0, 0) without machines", () -> new LetterAuction().differs(0, 0));
    }

    /** A ring of states that accept, but for the last one. */
    private static String ringOfAll(String name, int states) {
        StringBuilder text = new StringBuilder("letters 1;machine " + name + " 1 1 " + states + ";");
        for (int state = 0; state < states; state++) {
            text.append("go ").append(name).append(' ').append(state).append(" a ").append((state + 1) % states).append(';');
            if (state < states - 1) {
                text.append("accept ").append(name).append(' ').append(state).append(';');
            }
        }
        return text.toString();
    }

    /** Behind the last letter of a state nothing comes, not even the first letter of the next state. */
    private static void lastLetterOfFour() {
        Sentences.about(23, "WORDS", "A machine accepts a word if it comes from state 0 by its letters, one after the other, "
            + "to a state that accepts");
        LetterAuction x = Check.of("letters 4;machine p 9 1 6;machine q 9 1 6;machine r 9 1 6;machine s 9 1 6;"
            + "go p 1 a 2;accept p 2;go q 0 d 5;accept q 5;go s 0 d 5;go s 5 d 5;accept s 4;");
        Check.same("shortest of p", -1, x.shortest(1));
        Check.same("words of p", 0, x.words(1, 1));
        Check.same("shortest of q", 1, x.shortest(2));
        Check.same("its letter", 3, x.shortestLetter(2, 0));
        Check.same("shortest of s", -1, x.shortest(8));
        Check.same("words of s", 0, x.words(8, 20));
        Check.same("p and s accept nothing", -1, x.differs(0, 3));
        Check.same("q accepts d", 1, x.differs(1, 3));
    }

    private static void strengthsAndCoinsPlayNoPart() {
        Sentences.about(22, "WORDS", "strengths and coins play no part in this.");
        LetterAuction x = Check.of("letters 1;machine p 2 1 2;machine q 9 1 1;go p 0 a 1;go p 1 a 0;accept p 1;"
            + "tire p 0 1;tire p 1 1;turn 20 0;");
        for (int n = 0; n <= 2; n++) {
            Check.same("words(1, 19)", 1, x.words(1, 19));
            Check.same("words(1, 20)", 0, x.words(1, 20));
            Check.same("shortest(1)", 1, x.shortest(1));
            Check.same("shortestLetter(1, 0)", 0, x.shortestLetter(1, 0));
            Check.same("differs(0, 1)", 1, x.differs(0, 1));
            if (n < 2) {
                x.buy(0, 0);
            }
        }
        Check.same("both states are tired", 0, x.strength(0, 0) + x.strength(0, 1));
        Check.same("no coins", 0, x.machine(0, 1));
    }
}
