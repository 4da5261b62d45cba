/** Promises 5 to 11, and the Description's MACHINES, at their boundaries. */
final class MachineBoundaries {
    private static final int LEAST = Integer.MIN_VALUE;
    private static final int MOST = Integer.MAX_VALUE;

    private MachineBoundaries() {
    }

    static void run() {
        firstState();
        entering();
        tiredStates();
        distanceOfChain();
        distanceByLastLetter();
        distanceWithTiredStates();
        size();
        sizeOfWordAndChanges();
        machine();
        machineCounts();
        strength();
        isAccepting();
        goes();
        distance();
        whyNotBid();
        whyNotBidOrder();
    }

    private static void firstState() {
        Sentences.about(6, "MACHINES", "A machine is in one of its states, at first in state 0.");
        LetterAuction x = Check.of("letters 1;machine p 9 1 6;go p 0 a 1;go p 1 a 2;go p 2 a 3;go p 3 a 4;go p 4 a 5;go p 5 a 0;"
            + "accept p 5;tire p 0 1;");
        for (int n = 0; n <= 5; n++) {
            Check.same("state after " + n + " letters", n, x.machine(0, 0));
            x.buy(0, 0);
        }
        Check.same("from the last state to the first one", 0, x.machine(0, 0));
        Check.same("without a way to anywhere", 0, Check.of("letters 1;machine p 0 1 6;accept p 5;").machine(0, 0));
    }

    private static void entering() {
        Sentences.about(7, "MACHINES", "Each time it enters a state that can tire (also the one in which it is; "
            + "not by a reset and not at the beginning), the strength of that state, at first times, becomes less by 1; "
            + "a state is tired if its strength is 0.");
        LetterAuction x = Check.of("letters 2;machine p 99 1 2 listens;machine q 9 1 2;go p 0 a 0;go p 0 b 1;"
            + "go p 1 a 0;go p 1 b 1;accept p 0;tire p 0 3;tire p 1 99;go q 0 a 0;go q 0 b 1;tire q 0 9;turn 20 0;");
        strengths(x, "not at the beginning", 3, 99);
        x.buy(0, 0);
        strengths(x, "also the one in which it is", 2, 99);
        x.buy(0, 1);
        strengths(x, "state 1 for the first time", 2, 98);
        x.buy(0, 1);
        strengths(x, "state 1 from itself", 2, 97);
        x.buy(0, 0);
        strengths(x, "state 0 from state 1", 1, 97);
        Check.same("not tired with strength 1", 0, x.whyNotBid(0, 0));
        x.buy(0, 0);
        strengths(x, "tired", 0, 97);
        Check.same("tired with strength 0", 2, x.whyNotBid(0, 0));
        Check.same("not another machine's state", 9, x.strength(1, 0));
        x.reset(0);
        strengths(x, "not by a reset", 3, 99);
        x.play(1);
        strengths(x, "by the letter of a round", 2, 99);
        x.buy(1, 1);
        strengths(x, "by listening", 2, 98);
        Check.same("strength 99 of 99 is not tired", 3, Check.of("letters 1;machine p 1 1 1;go p 0 a 0;"
            + "tire p 0 99;").whyNotBid(0, 0));
    }

    private static void strengths(LetterAuction x, String when, int ofFirst, int ofSecond) {
        Check.same(when + ": strength of state 0", ofFirst, x.strength(0, 0));
        Check.same(when + ": strength of state 1", ofSecond, x.strength(0, 1));
    }

    private static void tiredStates() {
        // p and q are alike, but q's state 1 tires; r listens.
        String text = "letters 2;machine p 50 1 2;machine q 50 1 2;machine r 50 1 2 listens;go p 0 a 1;go p 1 a 1;accept p 1;"
            + "go q 0 a 1;go q 1 a 1;go q 1 b 0;accept q 1;tire q 1 1;go r 0 a 1;go r 1 a 1;tire r 1 2;turn 20 0;";
        LetterAuction x = Check.of(text);
        Sentences.about(29, "MACHINES", "A machine can go by a letter if the text tells where, and that state is not tired.");
        Check.raisesState("by b the text tells nothing", () -> x.buy(1, 1));
        Check.same("by a it can go", 1, x.buy(1, 0));
        Sentences.about(29, "MACHINES", "A tired state cannot be entered.");
        Check.raisesState("by buying", () -> x.buy(1, 0));
        Check.same("by bidding", -1, x.bidLetter(1));
        Check.same("but it can be left", 2, x.buy(1, 1));
        Check.same("from another state", 2, x.whyNotBid(1, 0));
        Check.same("r went once, and balked once", 11, 10 * x.machine(2, 5) + x.machine(2, 6));
        x.play(1);
        Check.same("r went twice", 2, x.machine(2, 5));
        Check.same("r's state is tired", 0, x.strength(2, 1));
        x.play(1);
        Check.same("by listening", 2, x.machine(2, 5));
        Check.same("r balks", 2, x.machine(2, 6));
        Check.same("r stays where it is", 1, x.machine(2, 0));
        Check.same("its strength stays, too", 0, x.strength(2, 1));
    }

    private static void distanceOfChain() {
        String chain = "letters 2;machine p 99 1 6;go p 0 a 1;go p 1 b 2;go p 2 a 3;go p 3 b 4;go p 4 a 5;";
        Sentences.about(10, "MACHINES", "0 if it accepts itself");
        LetterAuction x = Check.of(chain + "accept p 5;");
        Check.same("a state that accepts", 0, x.distance(0, 5));
        Sentences.about(10, "Returns the distance");
        for (int state = 0; state <= 5; state++) {
            Check.same("distance of " + state, 5 - state, x.distance(0, state));
        }
        Sentences.about(10, "NONE if there is none.");
        LetterAuction none = Check.of(chain);
        LetterAuction first = Check.of(chain + "accept p 0;");
        for (int state = 0; state <= 5; state++) {
            Check.same("no state accepts: " + state, -1, none.distance(0, state));
            Check.same("the first one accepts: " + state, state == 0 ? 0 : -1, first.distance(0, state));
        }
        Sentences.about(10, "MACHINES", "there may be none.");
        Check.same("a ring without a state that accepts", -1,
            Check.of("letters 1;machine p 1 1 2;go p 0 a 1;go p 1 a 0;machine q 1 1 2;accept q 1;").distance(0, 0));
    }

    /** Behind the last letter of a state nothing comes, not even the first letter of the next state. */
    private static void distanceByLastLetter() {
        Sentences.about(10, "Returns the distance");
        LetterAuction x = Check.of("letters 4;machine p 9 1 6;machine q 9 1 6;machine r 9 1 6;machine s 9 1 6;"
            + "go p 1 a 2;accept p 2;go q 0 d 5;go q 1 a 0;accept q 5;go s 4 d 5;go s 5 d 4;accept s 0;go r 5 a 5;accept r 5;");
        distances(x, -1, 1, 0, -1, -1, -1);
        Check.same("by the last letter", 1, x.distance(1, 0));
        Check.same("by the first letter to it", 2, x.distance(1, 1));
        Check.same("the last state of the last machine", -1, x.distance(3, 5));
        Check.same("the state before it", -1, x.distance(3, 4));
        int[] letters = {-1, 3, -1, -1};
        for (int machine = 0; machine < 4; machine++) {
            Check.same("bidLetter(" + machine + ")", letters[machine], x.bidLetter(machine));
            for (int letter = 0; letter < 4; letter++) {
                Check.same("whyNotBid(" + machine + ", " + letter + ")", letter == letters[machine] ? 0 : 1, x.whyNotBid(machine, letter));
            }
        }
    }

    private static void distanceWithTiredStates() {
        Sentences.about(10, "MACHINES", "The distance of a state is the least number of letters by which the machine "
            + "could come from it "
            + "to a state that accepts, if none of the states that are entered is tired now (strengths do not become "
            + "less on the way)");
        // From 0 to 4: by state 1 in 2 letters, by 2 and 3 in 3 letters, from 5 in 4 or 1 by state 4 itself.
        LetterAuction x = Check.of("letters 3;machine p 99 1 6;go p 0 a 1;go p 1 a 4;go p 0 b 2;go p 2 b 3;go p 3 b 4;go p 4 a 0;"
            + "go p 4 c 5;go p 5 a 0;accept p 4;tire p 1 2;tire p 2 1;tire p 4 3;turn 20 0;");
        distances(x, 2, 1, 2, 1, 0, 3);
        x.buy(0, 0);
        Check.same("a strength of 1 is enough", 1, x.strength(0, 1));
        distances(x, 2, 1, 2, 1, 0, 3);
        x.buy(0, 0);
        x.buy(0, 0);
        x.buy(0, 0);
        Check.same("state 1 is tired", 0, x.strength(0, 1));
        // From the tired state itself nothing has to enter it.
        distances(x, 3, 1, 2, 1, 0, 4);
        x.buy(0, 0);
        x.buy(0, 0);
        x.buy(0, 1);
        Check.same("state 2 is tired", 0, x.strength(0, 2));
        Check.same("state 4 is not", 1, x.strength(0, 4));
        distances(x, -1, 1, 2, 1, 0, -1);
        x.buy(0, 1);
        x.buy(0, 1);
        Check.same("state 4 is tired", 0, x.strength(0, 4));
        distances(x, -1, -1, -1, -1, 0, -1);
        x.reset(0);
        distances(x, 2, 1, 2, 1, 0, 3);
    }

    private static void distances(LetterAuction x, int... due) {
        for (int state = 0; state < due.length; state++) {
            Check.same("distance of " + state, due[state], x.distance(0, state));
        }
    }

    private static void size() {
        Sentences.about(5, "`what`: 0 machines, 1 letters, 2 letters of the word, 3 rounds that are over, 4 the chest, "
            + "5 the machine whose turn of a reset is next (NONE without machines), 6 rounds from turn to turn, "
            + "7 the price of a turn, 8 changes that can be undone");
        LetterAuction none = Check.of("letters 4;turn 20 99;");
        none.play(20);
        sizes(none, 0, 4, 0, 20, 0, -1, 20, 99, 1);
        LetterAuction one = Check.of("letters 1;machine p 7 1 1;turn 1 5;");
        sizes(one, 1, 1, 0, 0, 0, 0, 1, 5, 0);
        one.play(1);
        sizes(one, 1, 1, 0, 1, 0, 0, 1, 5, 1);
        LetterAuction four = Check.of("letters 2;machine p 30 1 1;machine q 20 1 1;machine r 0 1 1;machine s 9 1 1;"
            + "go p 0 b 0;accept p 0;turn 2 7;");
        sizes(four, 4, 2, 0, 0, 0, 0, 2, 7, 0);
        four.play(1);
        sizes(four, 4, 2, 1, 1, 0, 0, 2, 7, 1);
        four.play(1);
        // Of the 7 coins each machine gets one.
        sizes(four, 4, 2, 2, 2, 3, 1, 2, 7, 2);
        four.play(2);
        sizes(four, 4, 2, 4, 4, 2, 2, 2, 7, 3);
        four.play(2);
        sizes(four, 4, 2, 6, 6, 2, 3, 2, 7, 4);
        four.play(2);
        sizes(four, 4, 2, 8, 8, 1, 0, 2, 7, 5);
        four.undo();
        sizes(four, 4, 2, 6, 6, 2, 3, 2, 7, 4);
        Sentences.about(5, "Throws `IllegalArgumentException` if what is out of range");
        for (LetterAuction x : new LetterAuction[] {none, four, new LetterAuction()}) {
            Check.outsideArgument("size", 0, 8, x::size);
        }
    }

    private static void sizes(LetterAuction x, int... due) {
        for (int what = 0; what < due.length; what++) {
            Check.same("size(" + what + ")", due[what], x.size(what));
        }
    }

    private static void sizeOfWordAndChanges() {
        Sentences.about(5, "Returns a count, a setting or what is so now.");
        for (int letters = 58; letters <= 60; letters++) {
            Check.same("letters of the word", letters, Recipes.withLetters(letters).size(2));
        }
        LetterAuction full = Recipes.withLetters(60);
        Check.raisesState("a round more", () -> full.play(1));
        Check.same("letters of a full word", 60, full.size(2));
        LetterAuction x = new LetterAuction();
        for (int n = 1; n <= 12; n++) {
            x.play(1);
            Check.same("changes that can be undone, of " + n, n < 10 ? n : 10, x.size(8));
            Check.same("rounds", n, x.size(3));
        }
    }

    private static void machine() {
        Sentences.about(6, "`what`: 0 its state, 1 its coins, 2 its weight, 3 how many states it has, 4 1 if it "
            + "listens, otherwise 0, 5 the letters by which it went, 6 how often it balked");
        LetterAuction x = Check.of("letters 1;machine p 999 9 6;machine q 0 1 1 listens;machine r 5 2 3;"
            + "machine s 1 3 2 listens;");
        int[][] due = {{0, 999, 9, 6, 0, 0, 0}, {0, 0, 1, 1, 1, 0, 0}, {0, 5, 2, 3, 0, 0, 0}, {0, 1, 3, 2, 1, 0, 0}};
        for (int machine = 0; machine < 4; machine++) {
            for (int what = 0; what <= 6; what++) {
                Check.same("machine(" + machine + ", " + what + ")", due[machine][what], x.machine(machine, what));
            }
        }
        Sentences.about(6, "Throws `IndexOutOfBoundsException` if there is no such machine (checked first)");
        LetterAuction two = Recipes.withLetters(40);
        for (int what : new int[] {0, 6, -1, 7, LEAST, MOST}) {
            Check.outsideIndex("machine(m, " + what + ") of four", 0, 3, m -> x.machine(m, what));
            Check.outsideIndex("machine(m, " + what + ") of two", 0, 1, m -> two.machine(m, what));
            Check.outsideIndex("machine(m, " + what + ") of none", 0, -1, m -> new LetterAuction().machine(m, what));
        }
        Sentences.about(6, "Throws `IllegalArgumentException` if what is out of range");
        for (int machine = 0; machine < 4; machine++) {
            int m = machine;
            Check.outsideArgument("machine(" + m + ", what)", 0, 6, what -> x.machine(m, what));
        }
    }

    private static void machineCounts() {
        Sentences.about(6, "Returns a property of a machine.");
        LetterAuction x = Check.of("letters 2;machine p 9 1 1;machine q 1 1 2 listens;go p 0 a 0;go p 0 b 0;go q 0 b 1;");
        counts(x, 1, 0, 1, 0, 0);
        x.buy(0, 0);
        counts(x, 1, 0, 0, 0, 1);
        x.buy(0, 1);
        counts(x, 1, 1, 0, 1, 1);
        x.buy(0, 1);
        counts(x, 1, 1, 0, 1, 2);
        Check.same("letters by which p went", 3, x.machine(0, 5));
        Check.same("p never balks, as it does not listen", 0, x.machine(0, 6));
        x.undo();
        counts(x, 1, 1, 0, 1, 1);
    }

    private static void counts(LetterAuction x, int machine, int state, int coins, int went, int balked) {
        Check.same("state", state, x.machine(machine, 0));
        Check.same("coins", coins, x.machine(machine, 1));
        Check.same("letters by which it went", went, x.machine(machine, 5));
        Check.same("how often it balked", balked, x.machine(machine, 6));
    }

    private static void strength() {
        String text = "letters 1;machine p 9 1 6;machine q 9 1 1;go p 0 a 5;go p 5 a 5;go q 0 a 0;tire p 5 2;"
            + "tire q 0 1;turn 20 0;";
        LetterAuction x = Check.of(text);
        Sentences.about(7, "Returns the strength");
        Check.same("of the last state", 2, x.strength(0, 5));
        x.buy(0, 0);
        Check.same("entered once", 1, x.strength(0, 5));
        x.buy(0, 0);
        Check.same("tired", 0, x.strength(0, 5));
        Check.same("of another machine", 1, x.strength(1, 0));
        x.buy(1, 0);
        Check.same("of another machine, tired", 0, x.strength(1, 0));
        Sentences.about(7, "NONE if it never tires.");
        for (int state = 0; state <= 4; state++) {
            Check.same("strength of " + state, -1, x.strength(0, state));
        }
        Sentences.about(7, "Returns the strength of a state.");
        x.reset(0);
        Check.same("after a reset", 2, x.strength(0, 5));
        Check.same("never tires after a reset", -1, x.strength(0, 4));
        Check.same("of another machine that was not reset", 0, x.strength(1, 0));
        Sentences.about(7, "Throws `IndexOutOfBoundsException` if there is no such machine or state");
        Check.outsideIndex("strength(m, 0)", 0, 1, m -> x.strength(m, 0));
        Check.outsideIndex("strength(0, s) of six", 0, 5, s -> x.strength(0, s));
        Check.outsideIndex("strength(1, s) of one", 0, 0, s -> x.strength(1, s));
        Check.outsideIndex("strength(m, -1)", 0, 1, m -> x.strength(m, -1));
        Check.raisesIndex("strength(0, 0) without machines", () -> new LetterAuction().strength(0, 0));
    }

    private static void isAccepting() {
        LetterAuction x = Check.of("letters 1;machine p 9 1 6;machine q 9 1 1;go p 0 a 1;accept p 0;accept p 5;tire p 0 1;");
        Sentences.about(8, "Returns whether a state of a machine accepts.");
        for (int state = 0; state <= 5; state++) {
            Check.same("state " + state, state == 0 || state == 5 ? 1 : 0, x.isAccepting(0, state) ? 1 : 0);
        }
        Check.no("state 0 of another machine", x.isAccepting(1, 0));
        x.buy(0, 0);
        Check.yes("a state in which it is not", x.isAccepting(0, 0));
        Sentences.about(8, "Throws `IndexOutOfBoundsException` if there is no such machine or state");
        Check.outsideIndex("isAccepting(m, 0)", 0, 1, m -> x.isAccepting(m, 0));
        Check.outsideIndex("isAccepting(0, s) of six", 0, 5, s -> x.isAccepting(0, s));
        Check.outsideIndex("isAccepting(1, s) of one", 0, 0, s -> x.isAccepting(1, s));
        Check.raisesIndex("isAccepting(0, 0) without machines", () -> new LetterAuction().isAccepting(0, 0));
    }

    private static void goes() {
        LetterAuction x = Check.of("letters 4;machine p 9 1 6;machine q 9 1 1;go p 0 a 5;go p 5 d 0;go q 0 d 0;tire q 0 1;");
        Sentences.about(9, "Returns where a machine goes from a state by a letter.");
        Check.same("from the first state by the first letter to the last state", 5, x.goes(0, 0, 0));
        Check.same("from the last state by the last letter to the first state", 0, x.goes(0, 5, 3));
        Sentences.about(9, "Returns the state, whether it is tired or not");
        Check.same("a state that is not tired", 0, x.goes(1, 0, 3));
        x.buy(1, 3);
        Check.same("strength", 0, x.strength(1, 0));
        Check.same("a state that is tired", 0, x.goes(1, 0, 3));
        Sentences.about(9, "NONE if the text tells none.");
        Check.same("by the letter before", -1, x.goes(0, 5, 2));
        Check.same("by the letter after", -1, x.goes(0, 0, 1));
        Check.same("from the state after", -1, x.goes(0, 1, 0));
        Check.same("by the first letter", -1, x.goes(1, 0, 0));
        Sentences.about(9, "Throws `IndexOutOfBoundsException` if there is no such machine, state or letter");
        Check.outsideIndex("goes(m, 0, 0)", 0, 1, m -> x.goes(m, 0, 0));
        Check.outsideIndex("goes(0, s, 0) of six", 0, 5, s -> x.goes(0, s, 0));
        Check.outsideIndex("goes(1, s, 0) of one", 0, 0, s -> x.goes(1, s, 0));
        Check.outsideIndex("goes(0, 0, l) of four", 0, 3, l -> x.goes(0, 0, l));
        LetterAuction one = Check.of("letters 1;machine p 1 1 1;");
        Check.same("goes(0, 0, 0)", -1, one.goes(0, 0, 0));
        Check.outsideIndex("goes(0, 0, l) of one", 0, 0, l -> one.goes(0, 0, l));
        Check.raisesIndex("goes(0, 0, 0) without machines", () -> new LetterAuction().goes(0, 0, 0));
    }

    private static void distance() {
        Sentences.about(10, "Returns the distance of a state of a machine now.");
        LetterAuction x = Check.of("letters 1;machine p 9 1 2;machine q 9 1 6;go p 0 a 1;go p 1 a 1;accept p 1;tire p 1 1;");
        Check.same("before", 1, x.distance(0, 0));
        x.buy(0, 0);
        Check.same("when it is tired", -1, x.distance(0, 0));
        x.undo();
        Check.same("when it was undone", 1, x.distance(0, 0));
        Check.same("of another machine", -1, x.distance(1, 5));
        Check.same("again of the first one", 0, x.distance(0, 1));
        Sentences.about(10, "Throws `IndexOutOfBoundsException` if there is no such machine or state");
        Check.outsideIndex("distance(m, 0)", 0, 1, m -> x.distance(m, 0));
        Check.outsideIndex("distance(0, s) of two", 0, 1, s -> x.distance(0, s));
        Check.outsideIndex("distance(1, s) of six", 0, 5, s -> x.distance(1, s));
        Check.raisesIndex("distance(0, 0) without machines", () -> new LetterAuction().distance(0, 0));
    }

    private static final String REASONS = "Returns the first of these that applies: 1 the text does not tell where it goes, "
        + "2 that state is tired, 3 that state has no distance, 4 the machine has no coins, "
        + "5 another letter has a greater worth, or the same and comes first; 0 if it bids for it.";

    /** By a from state 0 to state 1, whatever lies there; from a state 1 that tires it can come back by b. */
    private static LetterAuction withWay(int coins, boolean way, boolean tires, boolean accepts, boolean better) {
        return Check.of("letters 2;machine p " + coins + " 1 3;machine q 99 1 1;" + (way ? "go p 0 a 1;" : "") + "go p 0 b 2;"
            + (tires ? "tire p 1 1;go p 1 b 0;" : "") + (accepts ? "accept p 1;" : "") + (better ? "accept p 2;" : "") + "turn 20 0;");
    }

    private static void whyNotBid() {
        Sentences.about(11, REASONS);
        Check.same("0 bids", 0, withWay(1, true, false, true, false).whyNotBid(0, 0));
        Check.same("0 the same worth, and comes first", 0, withWay(1, true, false, true, true).whyNotBid(0, 0));
        Check.same("5 the same worth, and comes later", 5, withWay(1, true, false, true, true).whyNotBid(0, 1));
        Check.same("0 the later one without the first", 0, withWay(1, false, false, true, true).whyNotBid(0, 1));
        Check.same("1 no way", 1, withWay(1, false, false, true, true).whyNotBid(0, 0));
        Check.same("3 no distance", 3, withWay(1, true, false, false, true).whyNotBid(0, 0));
        Check.same("4 no coins", 4, withWay(0, true, false, true, false).whyNotBid(0, 0));
        LetterAuction x = withWay(2, true, true, true, false);
        Check.same("0 before it is tired", 0, x.whyNotBid(0, 0));
        x.buy(0, 0);
        x.buy(0, 1);
        x.give(1, 0, 5);
        Check.same("2 tired", 2, x.whyNotBid(0, 0));
        // Distances 1 and 0: a greater worth counts, wherever it stands.
        LetterAuction y = Check.of("letters 3;machine p 9 1 3;go p 0 a 1;go p 0 b 2;go p 0 c 1;go p 1 a 2;accept p 2;");
        Check.same("5 a greater one comes later", 5, y.whyNotBid(0, 0));
        Check.same("0 the greatest", 0, y.whyNotBid(0, 1));
        Check.same("5 a greater one comes first", 5, y.whyNotBid(0, 2));
        // A worth that is above the coins is not cut to them before it is compared.
        LetterAuction poor = Check.of("letters 2;machine p 1 9 3;go p 0 a 1;go p 0 b 2;go p 1 a 2;accept p 2;");
        Check.same("5 both are above the coins", 5, poor.whyNotBid(0, 0));
        Check.same("0 both are above the coins", 0, poor.whyNotBid(0, 1));
        Check.same("the bid is cut", 1, poor.bid(0));
        Sentences.about(11, "Returns why a machine cannot bid for a letter now.");
        LetterAuction full = Recipes.withLetters(60);
        Check.same("a full word does not matter", 0, full.whyNotBid(0, 0));
        Check.same("nor for another letter", 5, full.whyNotBid(0, 1));
        Check.same("nor for another machine", 0, full.whyNotBid(1, 1));
        Sentences.about(11, "Throws `IndexOutOfBoundsException` if there is no such machine or letter");
        Check.outsideIndex("whyNotBid(m, 0)", 0, 1, m -> full.whyNotBid(m, 0));
        Check.outsideIndex("whyNotBid(0, l)", 0, 1, l -> full.whyNotBid(0, l));
        Check.outsideIndex("whyNotBid(0, l) of three", 0, 2, l -> y.whyNotBid(0, l));
        Check.raisesIndex("whyNotBid(0, 0) without machines", () -> new LetterAuction().whyNotBid(0, 0));
    }

    /** Each reason also stands before all the later ones that apply with it. */
    private static void whyNotBidOrder() {
        Sentences.about(11, REASONS);
        Check.same("1 with 4", 1, withWay(0, false, false, true, true).whyNotBid(0, 0));
        Check.same("3 with 4 and 5", 3, withWay(0, true, false, false, true).whyNotBid(0, 0));
        Check.same("4 with 5", 4, withWay(0, true, false, true, true).whyNotBid(0, 1));
        for (boolean reached : new boolean[] {false, true}) {
            LetterAuction x = withWay(2, true, true, reached, reached);
            x.buy(0, 0);
            x.buy(0, 1);
            Check.same("coins", 0, x.machine(0, 1));
            Check.same("distance", reached ? 0 : -1, x.distance(0, 1));
            Check.same("2 with 4 and " + (reached ? 5 : 3), 2, x.whyNotBid(0, 0));
        }
    }
}
