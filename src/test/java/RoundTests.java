/** Promises 12 to 18 and 28: the next round, coinsAfter, and play. */
final class RoundTests {
    private RoundTests() {
    }

    static void run() {
        bids();
        eachAloneAsFirstCall();
        sums();
        ties();
        paymentsAreShared();
        coinsAfter();
        play();
        playUntilFull();
        listeners();
        silentRounds();
        turns();
        turnWithoutCoins();
        turnForNothing();
        tiring();
    }

    private static void bids() {
        LetterAuction x = Check.of("letters 3;machine x 40 3 3;machine y 5 3 2;machine z 0 3 2;machine w 9 9 1;"
            + "go x 0 a 1;go x 0 b 2;go x 0 c 2;go x 1 a 2;accept x 2;go y 0 c 1;accept y 1;go z 0 a 1;accept z 1;");
        Check.same("the greatest worth, the first of two", 1, x.bidLetter(0));
        Check.same("bid is the worth", 21, x.bid(0));
        Check.same("a bid of at most its coins: letter", 2, x.bidLetter(1));
        Check.same("a bid of at most its coins", 5, x.bid(1));
        Check.same("without coins: letter", -1, x.bidLetter(2));
        Check.same("without coins", 0, x.bid(2));
        Check.same("without a letter: letter", -1, x.bidLetter(3));
        Check.same("without a letter", 0, x.bid(3));
        Check.raisesIndex("bidLetter(4)", () -> x.bidLetter(4));
        Check.raisesIndex("bidLetter(-1)", () -> x.bidLetter(-1));
        Check.raisesIndex("bid(4)", () -> x.bid(4));
        Check.raisesIndex("bid(-1)", () -> x.bid(-1));
        String before = Whole.now(x);
        x.winner();
        x.price();
        x.pays(0);
        x.coinsAfter(0, 20);
        Check.same("nothing changes", before, Whole.now(x));
    }

    /** None of these may rely on another call to have looked at the bids. */
    private static void eachAloneAsFirstCall() {
        String text = "letters 2;machine x 20 1 2;machine y 20 2 2;go x 0 a 1;accept x 1;go y 0 b 1;accept y 1;";
        Check.same("bidLetter", 1, Check.of(text).bidLetter(1));
        Check.same("bid", 14, Check.of(text).bid(1));
        Check.same("sum", 14, Check.of(text).sum(1));
        Check.same("winner", 1, Check.of(text).winner());
        Check.same("price", 7, Check.of(text).price());
        Check.same("pays", 7, Check.of(text).pays(1));
        Check.same("coinsAfter", 13, Check.of(text).coinsAfter(1, 1));
        Check.same("whyNotBid", 0, Check.of(text).whyNotBid(1, 1));
        Check.same("distance", 1, Check.of(text).distance(1, 0));
    }

    private static void sums() {
        LetterAuction x = Check.of("letters 4;machine x 9 9 2;machine y 30 2 2;machine z 8 1 2;machine w 4 4 2;"
            + "go x 0 a 1;accept x 1;go y 0 b 1;accept y 1;go z 0 b 1;accept z 1;go w 0 c 1;accept w 1;");
        int[] due = {9, 21, 4, 0};
        for (int letter = 0; letter < 4; letter++) {
            Check.same("sum(" + letter + ")", due[letter], x.sum(letter));
        }
        Check.raisesIndex("sum(4)", () -> x.sum(4));
        Check.raisesIndex("sum(-1)", () -> x.sum(-1));
        Check.same("winner", 1, x.winner());
        Check.same("price", 9, x.price());
        Check.same("pays(0)", 0, x.pays(0));
        Check.same("pays(1): 9 * 14 / 21", 6, x.pays(1));
        Check.same("pays(2): 9 * 7 / 21", 3, x.pays(2));
        Check.same("pays(3)", 0, x.pays(3));
        Check.raisesIndex("pays(4)", () -> x.pays(4));
        Check.raisesIndex("pays(-1)", () -> x.pays(-1));
        Check.same("play", 1, x.play(1));
        Check.same("the letter is told", 1, x.letter(0));
        Check.same("paid to the chest", 9, x.size(4));
        Check.same("account of prices", 9, x.account(0));
        int[] coins = {9, 24, 5, 4};
        for (int machine = 0; machine < 4; machine++) {
            Check.same("coins of " + machine, coins[machine], x.machine(machine, 1));
        }
        Check.same("who bid for it goes", 1, x.machine(1, 0));
        Check.same("who bid for another one stays", 0, x.machine(0, 0));
        Check.same("and does not balk, as it does not listen", 0, x.machine(0, 6));
    }

    private static void ties() {
        LetterAuction x = Check.of("letters 2;machine x 20 1 2;machine y 20 1 2;go x 0 b 1;accept x 1;go y 0 a 1;accept y 1;");
        Check.same("first of the same sum", 0, x.winner());
        Check.same("the price of the same sum", 7, x.price());
        Check.same("the whole bid is paid", 7, x.pays(1));
        Check.same("nothing is paid", 0, x.pays(0));
        LetterAuction alone = Check.of("letters 2;machine x 20 1 2;go x 0 b 1;accept x 1;");
        Check.same("alone: winner", 1, alone.winner());
        Check.same("alone: price", 0, alone.price());
        Check.same("alone: pays", 0, alone.pays(0));
        LetterAuction none = Check.of("letters 2;machine x 20 1 2;go x 0 b 1;");
        Check.same("none: winner", -1, none.winner());
        Check.same("none: price", 0, none.price());
        Check.same("none: pays", 0, none.pays(0));
    }

    private static void paymentsAreShared() {
        // Three bid 7 for a, the fourth 14 for b: 4 each, and the two coins of the rest from the first two.
        LetterAuction x = Check.of("letters 2;machine x 20 1 2;machine y 20 1 2;machine z 20 1 2;machine w 20 2 2;"
            + "go x 0 a 1;accept x 1;go y 0 a 1;accept y 1;go z 0 a 1;accept z 1;go w 0 b 1;accept w 1;");
        Check.same("price", 14, x.price());
        int[] due = {5, 5, 4, 0};
        for (int machine = 0; machine < 4; machine++) {
            Check.same("pays(" + machine + ")", due[machine], x.pays(machine));
        }
        x.play(1);
        Check.same("log: machines that bid for the letter", 7, x.log(0, 2));
        Check.same("log: price", 14, x.log(0, 1));
        // The first one does not bid for the letter, so that the rest begins with the second.
        LetterAuction y = Check.of("letters 2;machine x 8 2 2;machine y 5 1 2;machine z 20 1 2;"
            + "go x 0 b 1;accept x 1;go y 0 a 1;accept y 1;go z 0 a 1;accept z 1;");
        Check.same("sums 12 and 8: price", 8, y.price());
        Check.same("8 * 5 / 12, and one of the rest", 4, y.pays(1));
        Check.same("8 * 7 / 12", 4, y.pays(2));
        Check.same("bids for another letter", 0, y.pays(0));
    }

    private static void coinsAfter() {
        String text = "letters 2;machine x 30 1 2 listens;machine y 17 1 2;go x 0 a 1;go x 1 b 0;accept x 1;"
            + "go y 0 a 0;go y 0 b 0;accept y 0;tire y 0 5;turn 3 4;";
        LetterAuction x = Check.of(text);
        String before = Whole.now(x);
        for (int rounds = 1; rounds <= 20; rounds++) {
            LetterAuction played = Check.of(text);
            played.play(rounds);
            Check.same("coinsAfter(0, " + rounds + ")", played.machine(0, 1), x.coinsAfter(0, rounds));
            Check.same("coinsAfter(1, " + rounds + ")", played.machine(1, 1), x.coinsAfter(1, rounds));
        }
        Check.same("coinsAfter changes nothing", before, Whole.now(x));
        Check.raisesArgument("coinsAfter(0, 0)", () -> x.coinsAfter(0, 0));
        Check.raisesArgument("coinsAfter(0, 21)", () -> x.coinsAfter(0, 21));
        Check.raisesIndex("coinsAfter(2, 0): the machine is checked first", () -> x.coinsAfter(2, 0));
        Check.raisesIndex("coinsAfter(-1, 1)", () -> x.coinsAfter(-1, 1));
        // x pays each round, until the word is full; a full word lets no round be played.
        LetterAuction full = Check.of("letters 2;machine x 999 1 1;machine y 1 1 1;go x 0 a 0;accept x 0;go y 0 b 0;accept y 0;"
            + "turn 20 0;");
        full.play(20);
        full.play(20);
        full.play(18);
        Check.same("two rounds are left", full.machine(0, 1) - full.price(), full.coinsAfter(0, 1));
        int last = full.coinsAfter(0, 2);
        Check.same("after the last round", last, full.coinsAfter(0, 20));
        full.play(2);
        Check.same("the word is full", 60, full.size(2));
        Check.same("coins as told before", last, full.machine(0, 1));
        Check.same("no round can be played", last, full.coinsAfter(0, 7));
    }

    private static void play() {
        LetterAuction x = Check.of("letters 1;machine x 5 1 1;go x 0 a 0;accept x 0;tire x 0 3;turn 20 0;");
        Check.raisesArgument("play(0)", () -> x.play(0));
        Check.raisesArgument("play(21)", () -> x.play(21));
        Check.raisesArgument("play(-1)", () -> x.play(-1));
        Check.same("no change yet", 0, x.size(8));
        Check.same("three letters, then two silent rounds", 3, x.play(5));
        Check.same("rounds", 5, x.size(3));
        Check.same("silent rounds", 2, x.account(5));
        Check.same("one change", 1, x.size(8));
        Check.same("only silent rounds", 0, x.play(1));
        Check.same("also a change", 2, x.size(8));
    }

    private static void playUntilFull() {
        LetterAuction x = Check.of("letters 1;machine x 5 1 1;go x 0 a 0;accept x 0;turn 20 0;");
        x.play(20);
        x.play(20);
        x.play(15);
        Check.same("five letters are left", 5, x.play(20));
        Check.same("rounds of a full word", 60, x.size(3));
        Check.raisesState("play of a full word", () -> x.play(1));
        Check.raisesArgument("play(0) of a full word: the rounds are checked first", () -> x.play(0));
        Check.same("changes", 4, x.size(8));
        Check.same("the winner if the word was not full", 0, x.winner());
        Check.same("the bid of a full word", 5, x.bid(0));
        Check.same("the price of a full word", 0, x.price());
        Check.same("why not", 0, x.whyNotBid(0, 0));
    }

    private static void listeners() {
        // x bids for a; l goes by a to a state without a distance; m listens and cannot; n does not listen.
        LetterAuction x = Check.of("letters 2;machine x 9 1 1;machine l 9 1 2 listens;machine m 1 1 1 listens;machine n 9 1 1;"
            + "go x 0 a 0;accept x 0;go l 0 a 1;go l 0 b 0;go l 1 a 1;tire l 1 2;turn 20 0;");
        Check.same("l does not bid", -1, x.bidLetter(1));
        x.play(1);
        Check.same("l goes", 1, x.machine(1, 0));
        Check.same("l went once", 1, x.machine(1, 5));
        Check.same("a listener's state tires", 1, x.strength(1, 1));
        Check.same("m balks", 1, x.machine(2, 6));
        Check.same("m went nowhere", 0, x.machine(2, 5));
        Check.same("m pays its coin", 0, x.machine(2, 1));
        Check.same("n neither goes nor balks", 0, x.machine(3, 5) + x.machine(3, 6));
        Check.same("the chest", 1, x.size(4));
        Check.same("account of balking", 1, x.account(2));
        x.play(1);
        Check.same("m balks again", 2, x.machine(2, 6));
        Check.same("but has no coin", 1, x.account(2));
        Check.same("l's state is tired", 0, x.strength(1, 1));
        x.play(1);
        Check.same("l balks before a tired state", 1, x.machine(1, 6));
        Check.same("l pays", 8, x.machine(1, 1));
        Check.same("account", 2, x.account(2));
        Check.same("log holds only those that bid", 1, x.log(0, 2));
        // A listener that bids for another letter reads the one that is told, after the price is paid.
        LetterAuction y = Check.of("letters 2;machine x 20 1 2;machine y 5 1 3 listens;go x 0 a 1;accept x 1;"
            + "go y 0 b 2;go y 0 a 1;accept y 2;");
        Check.same("y bids for b", 1, y.bidLetter(1));
        y.play(1);
        Check.same("price of a", 5, y.log(0, 1));
        Check.same("y goes by a", 1, y.machine(1, 0));
        Check.same("y pays nothing", 5, y.machine(1, 1));
    }

    private static void silentRounds() {
        LetterAuction x = Check.of("letters 2;machine x 3 1 2 listens;machine y 5 1 1;go x 0 a 1;turn 2 1;");
        Check.same("silent", 0, x.play(1));
        Check.same("no letter", -1, x.letter(0));
        Check.same("no state changes", 0, x.machine(0, 0));
        Check.same("nobody balks", 0, x.machine(0, 6));
        Check.same("log: letter", -1, x.log(0, 0));
        Check.same("log: price", 0, x.log(0, 1));
        Check.same("log: machines", 0, x.log(0, 2));
        Check.same("log: round", 0, x.log(0, 3));
        x.play(1);
        Check.same("silent rounds have turns, too", 1, x.account(3));
        Check.same("the turn is next one's", 1, x.size(5));
        Check.same("silent rounds", 2, x.account(5));
        Check.same("the chest is too small to share", 1, x.size(4));
        x.play(2);
        Check.same("the chest is shared", 0, x.size(4));
        Check.same("coins of x: one paid, one got", 3, x.machine(0, 1));
        Check.same("coins of y", 5, x.machine(1, 1));
        Check.same("coins from the chest", 2, x.account(4));
        Check.same("the turn is the first one's again", 0, x.size(5));
    }

    private static void turns() {
        LetterAuction x = Check.of("letters 1;machine x 9 1 3;machine y 9 1 3;go x 0 a 1;go x 1 a 2;go x 2 a 2;accept x 2;"
            + "go y 0 a 1;go y 1 a 2;go y 2 a 2;accept y 2;tire x 1 5;tire y 2 9;turn 3 3;");
        x.play(2);
        Check.same("no turn yet", 2, x.machine(0, 0));
        Check.same("no reset paid", 0, x.account(3));
        x.play(1);
        Check.same("x is reset", 0, x.machine(0, 0));
        Check.same("its strength is the first one", 5, x.strength(0, 1));
        Check.same("y is not", 2, x.machine(1, 0));
        Check.same("nor its strength", 7, x.strength(1, 2));
        Check.same("x paid 3 and got 1", 7, x.machine(0, 1));
        Check.same("y got 1", 10, x.machine(1, 1));
        Check.same("a coin stays in the chest", 1, x.size(4));
        Check.same("account of resets", 3, x.account(3));
        Check.same("account of shares", 2, x.account(4));
        Check.same("a reset does not count letters anew", 3, x.machine(0, 5));
        x.play(3);
        Check.same("y is reset", 0, x.machine(1, 0));
        Check.same("y's strength", 9, x.strength(1, 2));
        Check.same("the chest of 4 is shared", 0, x.size(4));
        Check.same("shares", 6, x.account(4));
        // Without a turn in the text: every 4 rounds, for 1.
        LetterAuction y = Check.of("letters 1;machine x 9 1 2;go x 0 a 1;go x 1 a 1;accept x 1;");
        y.play(3);
        Check.same("not after 3", 1, y.machine(0, 0));
        y.play(1);
        Check.same("after 4", 0, y.machine(0, 0));
        Check.same("for 1", 1, y.account(3));
    }

    private static void turnWithoutCoins() {
        LetterAuction x = Check.of("letters 1;machine x 4 1 2 listens;machine y 5 1 2;go x 0 a 1;go x 1 a 1;accept x 1;"
            + "tire x 1 3;turn 1 5;");
        x.play(1);
        Check.same("x has too few coins for 5", 1, x.machine(0, 0));
        Check.same("nothing is paid", 4, x.machine(0, 1));
        Check.same("the turn goes on", 1, x.size(5));
        x.play(1);
        Check.same("y has just 5 coins", 5, x.account(3));
        Check.same("the chest is shared", 1, x.size(4));
        Check.same("y's coins", 2, x.machine(1, 1));
        x.play(1);
        Check.same("x has 6 coins now", 10, x.account(3));
        Check.same("x is reset", 0, x.machine(0, 0));
        Check.same("x's coins: 6 - 5 + 3", 4, x.machine(0, 1));
        Check.same("the turn is y's", 1, x.size(5));
        x.play(1);
        Check.same("y has 5 coins now", 15, x.account(3));
    }

    private static void turnForNothing() {
        LetterAuction x = Check.of("letters 1;machine x 0 1 2 listens;machine y 1 1 1;go x 0 a 1;go x 1 a 1;accept x 1;"
            + "go y 0 a 0;accept y 0;turn 1 0;");
        x.play(1);
        Check.same("a reset for nothing, even without coins", 0, x.machine(0, 0));
        Check.same("it went before", 1, x.machine(0, 5));
        Check.same("turn", 1, x.size(5));
        x.play(1);
        Check.same("not its turn", 1, x.machine(0, 0));
    }

    private static void tiring() {
        LetterAuction x = Check.of("letters 1;machine x 5 1 1;go x 0 a 0;accept x 0;tire x 0 2;turn 20 0;");
        Check.same("the beginning does not tire", 2, x.strength(0, 0));
        x.play(2);
        Check.same("tired", 0, x.strength(0, 0));
        Check.same("no bid for a tired state", -1, x.bidLetter(0));
        Check.same("no winner", -1, x.winner());
        x.reset(0);
        Check.same("a reset does not tire the state 0", 2, x.strength(0, 0));
    }
}
