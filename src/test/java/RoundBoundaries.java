/** Promises 12 to 18 and 28, and the Description's A ROUND, at their boundaries. */
final class RoundBoundaries {
    private RoundBoundaries() {
    }

    static void run() {
        worths();
        lettersLookedAt();
        greatestWorth();
        atMostItsCoins();
        withoutCoins();
        silent();
        greatestSum();
        priceOfAnotherLetter();
        oneLetterAlone();
        payments();
        paymentsOfThree();
        bidders();
        listeners();
        listenersCoins();
        roundsOfTurns();
        priceOfTurn();
        coinsWhenTurnComes();
        orderOfTurns();
        whatResetGives();
        sharing();
        sharingComesLast();
        fullWord();
        withoutMachines();
        coinsAreKept();
        nothingChanges();
        fullWordDoesNotMatter();
        bidLetterAndBid();
        sumWinnerPricePays();
        coinsAfter();
        coinsAfterUntilFull();
        play();
    }

    private static void worths() {
        Sentences.about(13, "A ROUND", "The worth of such a letter is weight * (7 - distance).");
        for (int weight = 1; weight <= 9; weight++) {
            LetterAuction x = Check.of("letters 2;machine p 999 " + weight + " 6;go p 0 a 1;go p 1 a 2;go p 2 a 3;go p 3 a 4;"
                + "go p 4 a 5;go p 5 b 0;accept p 5;");
            for (int distance = 4; distance >= 0; distance--) {
                Check.same("to a state of distance " + distance, weight * (7 - distance), x.bid(0));
                x.buy(0, 0);
            }
            Check.same("to a state of distance 5", weight * 2, x.bid(0));
            Check.same("by another letter", 1, x.bidLetter(0));
        }
    }

    private static void lettersLookedAt() {
        Sentences.about(12, "A ROUND", "Each machine looks at the letters by which it can go, to states that have a distance.");
        // By a nowhere, by b to a state that tires, by c to one without a distance, by d to one that accepts.
        String text = "letters 4;machine p 99 1 4;go p 0 b 1;go p 1 b 0;go p 0 c 2;accept p 1;tire p 1 1;";
        LetterAuction x = Check.of(text);
        Check.same("not a, which leads nowhere", 1, x.bidLetter(0));
        x.buy(0, 1);
        x.buy(0, 1);
        Check.same("not b, to a tired state; not c, to one without a distance", -1, x.bidLetter(0));
        LetterAuction y = Check.of(text + "go p 0 d 3;accept p 3;");
        y.buy(0, 1);
        y.buy(0, 1);
        Check.same("but d", 3, y.bidLetter(0));
    }

    private static void greatestWorth() {
        Sentences.about(12, "A ROUND", "It bids for the one with the greatest worth, of several for the first letter");
        // To state 2, which accepts, by these letters; by all others to state 1, from where it is one letter more.
        for (int best = 1; best < 16; best++) {
            StringBuilder text = new StringBuilder("letters 4;machine p 99 1 3;go p 1 a 2;accept p 2;");
            for (int letter = 0; letter < 4; letter++) {
                text.append("go p 0 ").append("abcd".charAt(letter)).append(" ").append((best >> letter & 1) == 1 ? 2 : 1).append(";");
            }
            LetterAuction x = Check.of(text.toString());
            Check.same("the first one of " + best, Integer.numberOfTrailingZeros(best), x.bidLetter(0));
            Check.same("its worth", 7, x.bid(0));
        }
    }

    private static void atMostItsCoins() {
        Sentences.about(13, "A ROUND", "the bid is this worth, but at most its coins.");
        int[] coins = {1, 2, 20, 21, 22, 999};
        int[] due = {1, 2, 20, 21, 21, 21};
        for (int i = 0; i < coins.length; i++) {
            LetterAuction x = Check.of("letters 1;machine p " + coins[i] + " 3 1;go p 0 a 0;accept p 0;");
            Check.same("bid with " + coins[i] + " coins", due[i], x.bid(0));
            Check.same("sum with " + coins[i] + " coins", due[i], x.sum(0));
        }
    }

    private static void withoutCoins() {
        Sentences.about(13, "A ROUND", "Without such a letter, or without coins, it does not bid.");
        for (int coins = 0; coins <= 1; coins++) {
            LetterAuction x = Check.of("letters 1;machine p " + coins + " 9 1;go p 0 a 0;accept p 0;");
            Check.same("bid with " + coins, coins, x.bid(0));
            Check.same("bidLetter with " + coins, coins == 0 ? -1 : 0, x.bidLetter(0));
            Check.same("winner with " + coins, coins == 0 ? -1 : 0, x.winner());
        }
        LetterAuction x = Check.of("letters 1;machine p 9 9 1;accept p 0;machine q 9 9 1;go q 0 a 0;");
        for (int machine = 0; machine < 2; machine++) {
            Check.same("bid without a letter", 0, x.bid(machine));
            Check.same("bidLetter without a letter", -1, x.bidLetter(machine));
        }
    }

    private static void silent() {
        Sentences.about(28, "A ROUND", "If nobody bids, the round is silent: no letter is told.");
        LetterAuction x = Check.of("letters 1;machine p 1 1 1;machine q 5 1 1 listens;go p 0 a 0;accept p 0;turn 20 0;");
        x.give(0, 1, 1);
        Check.same("nobody bids", 0, x.play(1));
        Check.same("letters", 0, x.size(2));
        Check.same("rounds", 1, x.size(3));
        Check.same("silent rounds", 1, x.account(5));
        Check.same("nobody balks", 0, x.machine(1, 6));
        Check.same("the letter in the log", -1, x.log(0, 0));
        x.give(1, 0, 1);
        Check.same("one bids a coin", 1, x.play(1));
        Check.same("it goes", 1, x.machine(0, 5));
        Check.same("letters", 1, x.size(2));
        Check.same("silent rounds", 1, x.account(5));
        Check.same("the listener balks", 1, x.machine(1, 6));
    }

    /** Each machine bids its coins, p for a, q for b, r for c. */
    private static LetterAuction bidding(int p, int q, int r) {
        return Check.of("letters 3;machine p " + p + " 9 1;machine q " + q + " 9 1;machine r " + r + " 9 1;"
            + "go p 0 a 0;accept p 0;go q 0 b 0;accept q 0;go r 0 c 0;accept r 0;turn 20 0;");
    }

    private static void greatestSum() {
        Sentences.about(15, "A ROUND", "Otherwise the letter with the greatest sum of bids is told, of several the first one; "
            + "it comes to the end of the word.");
        int[][] coins = {{5, 4, 0}, {5, 5, 0}, {5, 6, 0}, {0, 5, 4}, {0, 5, 5}, {0, 5, 6}, {5, 5, 5}, {5, 5, 6}, {5, 6, 6}, {6, 5, 6},
            {0, 0, 1}};
        int[] due = {0, 0, 1, 1, 1, 2, 0, 2, 1, 0, 2};
        for (int i = 0; i < due.length; i++) {
            LetterAuction x = bidding(coins[i][0], coins[i][1], coins[i][2]);
            Check.same("winner of row " + i, due[i], x.winner());
            Check.same("play", 1, x.play(1));
            Check.same("letter", due[i], x.letter(0));
            Check.same("the end of the word", -1, x.letter(1));
            Check.same("log", due[i], x.log(0, 0));
        }
        // Two bids of 3 are more than one of 5.
        LetterAuction x = Check.of("letters 2;machine p 5 1 1;machine q 3 1 1;machine r 3 1 1;go p 0 a 0;accept p 0;go q 0 b 0;"
            + "accept q 0;go r 0 b 0;accept r 0;");
        Check.same("the sum counts, not the bid", 1, x.winner());
        x.play(1);
        x.buy(0, 0);
        Check.same("the letter stays where it is", 1, x.letter(0));
        Check.same("the next one comes behind it", 0, x.letter(1));
    }

    private static void priceOfAnotherLetter() {
        Sentences.about(16, "A ROUND", "The price is the greatest sum of bids for another letter (0 if there is none).");
        int[][] coins = {{7, 6, 5}, {7, 5, 6}, {6, 7, 5}, {5, 7, 6}, {6, 5, 7}, {5, 6, 7}, {6, 6, 5}, {6, 5, 6}, {5, 6, 6}, {6, 6, 6}};
        for (int i = 0; i < coins.length; i++) {
            LetterAuction x = bidding(coins[i][0], coins[i][1], coins[i][2]);
            Check.same("price of row " + i, 6, x.price());
            x.play(1);
            Check.same("price in the log", 6, x.log(0, 1));
        }
        Check.same("another letter for 1", 1, bidding(9, 0, 1).price());
        Check.same("no bid for another letter", 0, bidding(0, 9, 0).price());
        // Bids for the same letter are none for another one.
        Check.same("two for the same letter", 0, Check.of("letters 2;machine p 9 1 1;machine q 9 1 1;go p 0 b 0;accept p 0;"
            + "go q 0 b 0;accept q 0;").price());
    }

    private static void oneLetterAlone() {
        Sentences.about(16, "A ROUND", "The price is the greatest sum of bids for another letter (0 if there is none).");
        LetterAuction x = Check.of("letters 1;machine p 9 1 1;go p 0 a 0;accept p 0;turn 20 0;");
        Check.same("price", 0, x.price());
        Check.same("pays", 0, x.pays(0));
        Check.same("play", 20, x.play(20));
        Check.same("coins", 9, x.machine(0, 1));
        Check.same("chest", 0, x.size(4));
    }

    /** p and q bid their coins for a, r its own for b. */
    private static void payments() {
        Sentences.about(17, "A ROUND", "The machines that bid for the letter pay the price together, to the chest: "
            + "each price * bid / sum, where sum is the sum of their bids; then, as long as this is less than the price, "
            + "each of them in ascending order, again and again, pays one coin more if it has paid less than its bid.");
        // The coins of each, and what each pays.
        int[][] rows = {{1, 0, 0, 0, 0, 0}, {1, 0, 1, 1, 0, 0}, {0, 1, 1, 0, 1, 0}, {3, 4, 0, 0, 0, 0}, {3, 4, 1, 1, 0, 0},
            {3, 4, 5, 3, 2, 0}, {3, 4, 6, 3, 3, 0}, {3, 4, 7, 3, 4, 0}, {3, 4, 8, 0, 0, 7}, {7, 7, 7, 4, 3, 0},
            {1, 7, 7, 1, 6, 0}, {7, 1, 7, 7, 0, 0}, {1, 1, 1, 1, 0, 0}, {1, 2, 2, 1, 1, 0}, {2, 1, 2, 2, 0, 0},
            {63, 63, 63, 32, 31, 0}, {63, 1, 63, 63, 0, 0}, {1, 63, 63, 1, 62, 0}, {62, 63, 63, 32, 31, 0}};
        for (int[] row : rows) {
            LetterAuction x = Check.of("letters 2;machine p " + row[0] + " 9 1;machine q " + row[1] + " 9 1;machine r "
                + row[2] + " 9 1;go p 0 a 0;accept p 0;go q 0 a 0;accept q 0;go r 0 b 0;accept r 0;turn 20 0;");
            paid(x, new int[] {row[0], row[1], row[2]}, new int[] {row[3], row[4], row[5]});
        }
    }

    private static void paid(LetterAuction x, int[] coins, int[] due) {
        int price = 0;
        for (int machine = 0; machine < due.length; machine++) {
            Check.same("pays(" + machine + ")", due[machine], x.pays(machine));
            price += due[machine];
        }
        Check.same("price", price, x.price());
        x.play(1);
        for (int machine = 0; machine < due.length; machine++) {
            Check.same("coins of " + machine, coins[machine] - due[machine], x.machine(machine, 1));
        }
        Check.same("chest", price, x.size(4));
        Check.same("account of prices", price, x.account(0));
    }

    /** p, q and r bid their coins for b, s its own for a, or s is the first of the four. */
    private static void paymentsOfThree() {
        Sentences.about(17, "A ROUND", "each of them in ascending order, again and again, pays one coin more if it has "
            + "paid less than its bid.");
        int[][] coins = {{5, 5, 5, 6}, {5, 5, 5, 7}, {5, 5, 5, 8}, {5, 5, 5, 9}, {1, 1, 1, 1}, {1, 1, 1, 2}, {7, 7, 7, 20}, {1, 2, 3, 5}};
        int[][] due = {{2, 2, 2, 0}, {3, 2, 2, 0}, {3, 3, 2, 0}, {3, 3, 3, 0}, {1, 0, 0, 0}, {1, 1, 0, 0}, {7, 7, 6, 0}, {1, 2, 2, 0}};
        for (int i = 0; i < due.length; i++) {
            String[] machines = new String[4];
            for (int m = 0; m < 4; m++) {
                char name = "pqrs".charAt(m);
                String letter = m < 3 ? " 0 b 0;" : " 0 a 0;";
                machines[m] = "machine " + name + " " + coins[i][m] + " 9 1;go " + name + letter + "accept " + name + " 0;";
            }
            String text = "letters 2;turn 20 0;";
            paid(Check.of(text + machines[0] + machines[1] + machines[2] + machines[3]), coins[i], due[i]);
            paid(Check.of(text + machines[3] + machines[0] + machines[1] + machines[2]),
                new int[] {coins[i][3], coins[i][0], coins[i][1], coins[i][2]}, new int[] {0, due[i][0], due[i][1], due[i][2]});
        }
    }

    private static void bidders() {
        Sentences.about(28, "A ROUND", "The machines that bid for the letter go by it.");
        LetterAuction x = Check.of("letters 2;machine p 9 1 2;machine q 9 1 2;machine r 9 1 2;machine s 9 1 2 listens;"
            + "go p 0 a 1;accept p 1;go q 0 b 1;accept q 1;go r 0 a 1;go s 0 a 1;accept s 1;tire s 1 2;");
        x.play(1);
        int[] went = {1, 0, 0, 1};
        for (int machine = 0; machine < 4; machine++) {
            Check.same("letters by which " + machine + " went", went[machine], x.machine(machine, 5));
            Check.same("state of " + machine, went[machine], x.machine(machine, 0));
            Check.same("how often " + machine + " balked", 0, x.machine(machine, 6));
        }
        // One that listens and bid goes once, and does not try it again from its new state.
        Check.same("strength of the state of s", 1, x.strength(3, 1));
        Check.same("machines in the log", 9, x.log(0, 2));
    }

    private static void listeners() {
        Sentences.about(28, "A ROUND", "A machine that listens, and did not bid for it, reads it, too: if it can go by it, it goes; "
            + "otherwise it balks, and pays one coin to the chest, if it has one.");
        // q bids for b and can go by a; r does not bid and can go by a; s bids for b alone.
        String rest = "go p 0 a 1;accept p 1;go q 0 b 2;go q 0 a 1;accept q 2;go r 0 a 1;go s 0 b 1;accept s 1;turn 20 0;";
        LetterAuction x = Check.of("letters 2;machine p 63 9 2 listens;machine q 3 1 3 listens;machine r 2 1 2 listens;"
            + "machine s 3 1 2 listens;" + rest);
        x.play(1);
        int[] states = {1, 1, 1, 0};
        int[] coins = {57, 3, 2, 2};
        int[] balked = {0, 0, 0, 1};
        for (int machine = 0; machine < 4; machine++) {
            Check.same("state of " + machine, states[machine], x.machine(machine, 0));
            Check.same("coins of " + machine, coins[machine], x.machine(machine, 1));
            Check.same("went " + machine, 1 - balked[machine], x.machine(machine, 5));
            Check.same("balked " + machine, balked[machine], x.machine(machine, 6));
        }
        Check.same("chest: a price of 6, and a coin", 7, x.size(4));
        LetterAuction y = Check.of("letters 2;machine p 63 9 2;machine q 3 1 3;machine r 2 1 2;machine s 3 1 2;" + rest);
        y.play(1);
        for (int machine = 1; machine < 4; machine++) {
            Check.same("none that does not listen goes: " + machine, 0, y.machine(machine, 5));
            Check.same("none that does not listen balks: " + machine, 0, y.machine(machine, 6));
        }
        Check.same("chest: a price of 6", 6, y.size(4));
    }

    private static void listenersCoins() {
        Sentences.about(28, "A ROUND", "otherwise it balks, and pays one coin to the chest, if it has one.");
        for (int coins = 0; coins <= 2; coins++) {
            LetterAuction x = Check.of("letters 1;machine p 9 1 1;machine q " + coins + " 1 1 listens;go p 0 a 0;"
                + "accept p 0;turn 20 0;");
            for (int n = 1; n <= 3; n++) {
                x.play(1);
                Check.same("balked", n, x.machine(1, 6));
                Check.same("coins of " + coins + " after " + n, Math.max(0, coins - n), x.machine(1, 1));
                Check.same("chest", Math.min(coins, n), x.size(4));
                Check.same("account of balking", Math.min(coins, n), x.account(2));
            }
        }
    }

    private static void roundsOfTurns() {
        Sentences.about(28, "A ROUND", "One more round is over. If the number of rounds is a multiple of rounds then");
        for (int rounds : new int[] {1, 2, 3, 4, 19, 20}) {
            LetterAuction x = Check.of("letters 1;machine p 99 1 1;machine q 99 1 1;turn " + rounds + " 7;");
            for (int n = 1; n <= 2 * rounds + 1; n++) {
                x.play(1);
                Check.same("rounds", n, x.size(3));
                Check.same("turns of " + rounds + " after " + n, n / rounds * 7, x.account(3));
                Check.same("whose turn is next", n / rounds % 2, x.size(5));
            }
            LetterAuction y = Check.of("letters 1;machine p 99 1 1;machine q 99 1 1;turn " + rounds + " 7;");
            y.play(20);
            Check.same("turns of " + rounds + " in 20 rounds at once", 20 / rounds * 7, y.account(3));
        }
        LetterAuction none = Check.of("letters 1;machine p 99 1 1;");
        none.play(3);
        Check.same("without a turn in the text, not after 3", 0, none.account(3));
        none.play(1);
        Check.same("without a turn in the text, after 4 for 1", 1, none.account(3));
    }

    /** p goes to state 1, then it is its turn. */
    private static LetterAuction withTurn(int coins, int price) {
        return Check.of("letters 1;machine p " + coins + " 1 2 listens;machine q 9 1 1;go p 0 a 1;go q 0 a 0;"
            + "accept q 0;tire p 1 3;turn 1 "
            + price + ";");
    }

    private static void priceOfTurn() {
        for (int price : new int[] {0, 1, 5, 99}) {
            for (int coins = Math.max(0, price - 1); coins <= price + 1; coins++) {
                LetterAuction x = withTurn(coins, price);
                x.play(1);
                boolean isReset = coins >= price;
                Sentences.about(28, "A ROUND", isReset
                    ? "the machine whose turn it is tries a reset: if it has coins for the price of a turn, it pays "
                        + "that to the chest, its states have their first strengths again, and it is in state 0"
                    : "otherwise nothing is done.");
                int paid = isReset ? price : 0;
                Check.same("state with " + coins + " coins for " + price, isReset ? 0 : 1, x.machine(0, 0));
                Check.same("strength with " + coins + " coins for " + price, isReset ? 3 : 2, x.strength(0, 1));
                Check.same("coins with " + coins + " coins for " + price, coins - paid + paid / 2, x.machine(0, 1));
                Check.same("account with " + coins + " coins for " + price, paid, x.account(3));
                Check.same("chest with " + coins + " coins for " + price, paid % 2, x.size(4));
                Check.same("the next turn with " + coins + " coins for " + price, 1, x.size(5));
            }
        }
    }

    /** What it pays in the round itself is gone when its turn comes. */
    private static void coinsWhenTurnComes() {
        Sentences.about(28, "A ROUND", "if it has coins for the price of a turn, it pays that to the chest");
        for (int coins = 4; coins <= 6; coins++) {
            LetterAuction balks = Check.of("letters 1;machine p " + coins + " 1 1 listens;machine q 9 1 1;go q 0 a 0;"
                + "accept q 0;turn 1 4;");
            balks.play(1);
            Check.same("a coin for balking before, of " + coins, coins > 4 ? 4 : 0, balks.account(3));
            LetterAuction bids = Check.of("letters 2;machine p " + (coins + 3) + " 1 1;machine q 4 1 1;go p 0 a 0;accept p 0;"
                + "go q 0 b 0;accept q 0;turn 1 4;");
            bids.play(1);
            Check.same("a price of 4 before, of " + (coins + 3), coins > 4 ? 4 : 0, bids.account(3));
        }
    }

    private static void orderOfTurns() {
        Sentences.about(28, "A ROUND", "(The turns go through the machines in ascending order, again and again, "
            + "each whether it could pay or not.)");
        for (int machines = 1; machines <= 4; machines++) {
            StringBuilder text = new StringBuilder("letters 1;turn 1 9;");
            for (int machine = 0; machine < machines; machine++) {
                // Every other machine cannot pay.
                text.append("machine ").append("pqrs".charAt(machine)).append(machine % 2 == 0 ? " 0" : " 999").append(" 1 1;");
            }
            LetterAuction x = Check.of(text.toString());
            for (int n = 0; n < 9; n++) {
                Check.same("turn " + n + " of " + machines, n % machines, x.size(5));
                x.play(1);
            }
        }
    }

    private static void whatResetGives() {
        Sentences.about(28, "A ROUND", "its states have their first strengths again, and it is in state 0");
        LetterAuction x = Check.of("letters 1;machine p 50 1 3;machine q 50 1 3 listens;go p 0 a 1;go p 1 a 2;"
            + "go p 2 a 2;accept p 2;go q 0 a 1;go q 1 a 2;go q 2 a 2;tire p 1 5;tire p 2 7;tire q 1 5;tire q 2 7;turn 4 3;");
        x.play(3);
        stands("p before its turn", x, 0, 2, 4, 5);
        stands("q before a turn", x, 1, 2, 4, 5);
        x.play(1);
        stands("p after its turn", x, 0, 0, 5, 7);
        stands("q after another's turn", x, 1, 2, 4, 4);
        Check.same("letters by which p went", 4, x.machine(0, 5));
        Check.same("letters of the word", 4, x.size(2));
        x.play(4);
        stands("p after another's turn", x, 0, 2, 4, 4);
        stands("q after its turn", x, 1, 0, 5, 7);
    }

    private static void stands(String when, LetterAuction x, int machine, int state, int ofFirst, int ofSecond) {
        Check.same(when + ": state", state, x.machine(machine, 0));
        Check.same(when + ": strength of 1", ofFirst, x.strength(machine, 1));
        Check.same(when + ": strength of 2", ofSecond, x.strength(machine, 2));
    }

    private static void sharing() {
        Sentences.about(28, "A ROUND", "the chest is shared: each machine gets as many coins as the chest has divided by the number of machines; "
            + "the rest stays in the chest.");
        String[] names = {"p", "q", "r", "s"};
        for (int machines = 1; machines <= 4; machines++) {
            for (int chest = machines - 1; chest <= 2 * machines + 1; chest++) {
                StringBuilder text = new StringBuilder("letters 1;turn 1 " + chest + ";machine p 50 1 1;");
                for (int machine = 1; machine < machines; machine++) {
                    text.append("machine ").append(names[machine]).append(" 0 1 1;");
                }
                LetterAuction x = Check.of(text.toString());
                x.play(1);
                int share = chest < machines ? 0 : chest < 2 * machines ? 1 : chest < 3 * machines ? 2 : 3;
                for (int machine = 0; machine < machines; machine++) {
                    Check.same("coins of " + machine + " of " + machines, share + (machine == 0 ? 50 - chest : 0), x.machine(machine, 1));
                }
                Check.same("the rest of " + chest, chest - share * machines, x.size(4));
                Check.same("account of " + chest, share * machines, x.account(4));
            }
        }
    }

    private static void sharingComesLast() {
        Sentences.about(28, "A ROUND", "Then, in such a round alone, the chest is shared");
        LetterAuction x = Check.of("letters 1;machine p 4 1 1;machine q 99 9 1;go q 0 a 0;turn 2 5;");
        x.buy(1, 0);
        Check.same("not by buying", 9, x.size(4));
        x.reset(1);
        Check.same("not by a reset out of turn", 19, x.size(4));
        x.play(1);
        Check.same("not in another round", 19, x.size(4));
        x.play(1);
        // p had 4 coins for a price of 5 when its turn came, and got 9 thereafter.
        Check.same("p could not pay", 10, x.account(3));
        Check.same("p's coins", 13, x.machine(0, 1));
        Check.same("q's coins", 89, x.machine(1, 1));
        Check.same("the rest", 1, x.size(4));
        Check.same("account", 18, x.account(4));
        x.play(2);
        Check.same("what q pays for its turn is shared with the rest", 0, x.size(4));
        Check.same("p's coins then", 16, x.machine(0, 1));
        Check.same("q's coins then", 87, x.machine(1, 1));
        // Also if nobody pays in such a round.
        LetterAuction y = Check.of("letters 1;machine p 0 1 1;machine q 9 9 1;go q 0 a 0;turn 1 99;");
        y.buy(1, 0);
        y.play(1);
        Check.same("shared without a reset", 8, y.account(4));
    }

    private static void fullWord() {
        Sentences.about(28, "A ROUND", "The word has at most 60 letters.");
        LetterAuction x = Recipes.withLetters(58);
        Check.same("two letters are left", 2, x.play(3));
        Check.same("letters", 60, x.size(2));
        Check.same("rounds", 60, x.size(3));
        Check.raisesState("play", () -> x.play(1));
        Check.raisesState("buy", () -> x.buy(0, 0));
        LetterAuction y = Recipes.withLetters(59);
        Check.same("one letter is left", 1, y.play(1));
        Check.raisesState("play", () -> y.play(20));
        LetterAuction z = Recipes.withLetters(59);
        Check.same("the last letter is bought", 60, z.buy(0, 0));
        Check.raisesState("play", () -> z.play(1));
        Check.raisesState("buy", () -> z.buy(1, 1));
        Check.same("the last letter", 0, z.letter(59));
        Check.same("none behind it", -1, z.letter(60));
        z.undo();
        Check.same("it can be bought again", 60, z.buy(1, 1));
        Check.same("as another letter", 1, z.letter(59));
    }

    private static void withoutMachines() {
        Sentences.about(28, "A ROUND", "Without machines each round is silent, and nothing else is done in it than to "
            + "count it (and to log it).");
        for (int price : new int[] {0, 1, 99}) {
            // The machines of an earlier text are none.
            LetterAuction none = Recipes.large();
            Check.same("parse", 0, Check.parse(none, "letters 3;turn 1 " + price + ";"));
            none.play(20);
            Check.same("chest", 0, none.size(4));
            Check.same("coins paid for resets", 0, none.account(3));
            Check.same("silent rounds", 20, none.account(5));
        }
        LetterAuction x = Check.of("letters 3;turn 1 0;");
        for (int n = 1; n <= 5; n++) {
            Check.same("play(20)", 0, x.play(20));
        }
        Check.same("no word gets full of it", 0, x.size(2));
        Check.same("rounds", 100, x.size(3));
        Check.same("chest", 0, x.size(4));
        Check.same("turn", -1, x.size(5));
        int[] accounts = {0, 0, 0, 0, 0, 100};
        for (int what = 0; what <= 5; what++) {
            Check.same("account(" + what + ")", accounts[what], x.account(what));
        }
        int[] entry = {-1, 0, 0, 99};
        for (int part = 0; part < 4; part++) {
            Check.same("log(0, " + part + ")", entry[part], x.log(0, part));
        }
        Check.same("log(19, 3)", 80, x.log(19, 3));
        Check.same("winner", -1, x.winner());
        Check.same("price", 0, x.price());
    }

    private static void coinsAreKept() {
        Sentences.about(28, "A ROUND", "The coins of all machines and of the chest together never change.");
        Check.same("after changes of all kinds", 103, allCoins(Recipes.busy()));
        for (int letters = 40; letters <= 60; letters++) {
            Check.same("with " + letters + " letters", 1400, allCoins(Recipes.withLetters(letters)));
        }
        LetterAuction rich = Check.of("letters 2;machine p 999 9 1 listens;machine q 999 8 1 listens;machine r 999 9 1 listens;"
            + "machine s 999 9 1 listens;go p 0 a 0;accept p 0;go q 0 b 0;accept q 0;go r 0 a 0;accept r 0;turn 3 99;");
        for (int n = 1; n <= 20; n++) {
            rich.play(3);
            Check.same("after " + n + " times three rounds", 3996, allCoins(rich));
        }
    }

    private static int allCoins(LetterAuction x) {
        int all = x.size(4);
        for (int machine = 0; machine < x.size(0); machine++) {
            Check.yes("coins are not below 0", x.machine(machine, 1) >= 0);
            all += x.machine(machine, 1);
        }
        return all;
    }

    private static void nothingChanges() {
        Sentences.about(12, "nothing changes (whether the word is full does not matter, except where it is said)");
        Check.same("all as before", Whole.of(Recipes::busy), Whole.of(() -> asked(Recipes.busy())));
        Check.same("all as before, with a full word", Whole.of(() -> Recipes.withLetters(60)),
            Whole.of(() -> asked(Recipes.withLetters(60))));
        Check.same("all as before, without machines", Whole.of(Recipes::fresh), Whole.of(() -> asked(Recipes.fresh())));
    }

    private static LetterAuction asked(LetterAuction x) {
        for (int machine = 0; machine < x.size(0); machine++) {
            x.bidLetter(machine);
            x.bid(machine);
            x.pays(machine);
            x.coinsAfter(machine, 1);
            x.coinsAfter(machine, 20);
            x.whyNotBid(machine, 0);
        }
        for (int letter = 0; letter < x.size(1); letter++) {
            x.sum(letter);
        }
        x.winner();
        x.price();
        return x;
    }

    private static void fullWordDoesNotMatter() {
        Sentences.about(15, "Returns the letter that would be told in the next round, if the word was not full.");
        // From state 0 and with these coins, both before the last letter and behind it.
        String text = "letters 2;machine p 900 2 1;machine q 900 1 1 listens;go p 0 a 0;accept p 0;go q 0 b 0;"
            + "accept q 0;turn 20 0;";
        LetterAuction x = Check.of(text);
        for (int n = 0; n < 3; n++) {
            nextRound(x);
            x.play(20);
        }
        Check.same("letters", 60, x.size(2));
        nextRound(x);
        Check.same("who would pay nothing", 0, x.pays(1));
        Check.same("reason", 0, x.whyNotBid(0, 0));
    }

    private static void nextRound(LetterAuction x) {
        Check.same("winner", 0, x.winner());
        Check.same("price", 7, x.price());
        Check.same("bidLetter", 1, x.bidLetter(1));
        Check.same("bid", 7, x.bid(1));
        Check.same("sum", 14, x.sum(0));
        Check.same("pays", 7, x.pays(0));
    }

    private static void bidLetterAndBid() {
        LetterAuction x = Check.of("letters 4;machine p 9 1 1;machine q 9 1 1;machine r 0 1 1;machine s 9 1 1;"
            + "go p 0 d 0;accept p 0;go q 0 a 0;accept q 0;go r 0 a 0;accept r 0;");
        Sentences.about(12, "Returns the letter for which a machine bids now.");
        Check.same("the last letter", 3, x.bidLetter(0));
        Sentences.about(12, "Returns the letter");
        Check.same("the first letter", 0, x.bidLetter(1));
        Sentences.about(12, "NONE if it does not bid.");
        Check.same("without coins", -1, x.bidLetter(2));
        Check.same("without a way", -1, x.bidLetter(3));
        Sentences.about(12, "Throws `IndexOutOfBoundsException` if there is no such machine");
        Check.outsideIndex("bidLetter of four", 0, 3, x::bidLetter);
        Check.outsideIndex("bidLetter of none", 0, -1, new LetterAuction()::bidLetter);
        Sentences.about(13, "Returns the bid of a machine now.");
        Check.same("bid", 7, x.bid(0));
        Sentences.about(13, "Returns the bid");
        x.give(0, 2, 3);
        Check.same("bid of 6 coins", 6, x.bid(0));
        Check.same("bid of 3 coins", 3, x.bid(2));
        x.undo();
        Sentences.about(13, "0 if it does not bid.");
        Check.same("without coins", 0, x.bid(2));
        Check.same("without a way", 0, x.bid(3));
        Sentences.about(13, "Throws `IndexOutOfBoundsException` if there is no such machine");
        Check.outsideIndex("bid of four", 0, 3, x::bid);
        Check.outsideIndex("bid of none", 0, -1, new LetterAuction()::bid);
    }

    private static void sumWinnerPricePays() {
        LetterAuction x = Check.of("letters 4;machine p 9 1 1;machine q 5 1 1;machine r 3 1 1;machine s 0 1 1;"
            + "go p 0 d 0;accept p 0;go q 0 a 0;accept q 0;go r 0 a 0;accept r 0;go s 0 b 0;accept s 0;");
        Sentences.about(14, "Returns the sum of bids for a letter now.");
        int[] sums = {8, 0, 0, 7};
        for (int letter = 0; letter < 4; letter++) {
            Check.same("sum(" + letter + ")", sums[letter], x.sum(letter));
        }
        Sentences.about(14, "Throws `IndexOutOfBoundsException` if there is no such letter");
        Check.outsideIndex("sum of four", 0, 3, x::sum);
        Check.outsideIndex("sum of one", 0, 0, new LetterAuction()::sum);
        Sentences.about(15, "Returns the letter");
        Check.same("winner", 0, x.winner());
        Sentences.about(16, "Returns the price in the next round");
        Check.same("price", 7, x.price());
        Sentences.about(17, "Returns what a machine would pay for the letter of the next round.");
        Check.same("7 * 5 / 8, and one of the rest", 5, x.pays(1));
        Sentences.about(17, "Returns the number of coins");
        Check.same("7 * 3 / 8", 2, x.pays(2));
        Sentences.about(17, "0 if it does not bid for that letter.");
        Check.same("bids for another", 0, x.pays(0));
        Check.same("does not bid", 0, x.pays(3));
        Sentences.about(17, "Throws `IndexOutOfBoundsException` if there is no such machine");
        Check.outsideIndex("pays of four", 0, 3, x::pays);
        Check.outsideIndex("pays of none", 0, -1, new LetterAuction()::pays);
        LetterAuction silent = Check.of("letters 2;machine p 0 1 1;go p 0 a 0;accept p 0;machine q 9 1 1;go q 0 b 0;");
        // A round was paid before, and none can be told now.
        LetterAuction tired = Check.of("letters 2;machine p 9 1 1;machine q 9 1 1;go p 0 a 0;go q 0 b 0;accept p 0;"
            + "accept q 0;tire p 0 1;tire q 0 1;");
        tired.play(1);
        tired.buy(1, 1);
        Check.same("a silent round", 0, tired.play(1));
        Check.same("price in the log of the silent round", 0, tired.log(0, 1));
        Check.same("price in the log of the one that was paid", 7, tired.log(2, 1));
        for (LetterAuction none : new LetterAuction[] {silent, tired, new LetterAuction()}) {
            Sentences.about(15, "NONE if it would be silent.");
            Check.same("winner", -1, none.winner());
            Sentences.about(16, "0 if it would be silent.");
            Check.same("price", 0, none.price());
            Check.same("sum", 0, none.sum(0));
        }
        Check.same("pays", 0, silent.pays(0) + silent.pays(1));
    }

    private static void coinsAfter() {
        String text = "letters 2;machine p 90 2 2 listens;machine q 70 1 2 listens;go p 0 a 1;go p 1 b 0;accept p 1;"
            + "go q 0 a 0;go q 0 b 0;accept q 0;tire q 0 5;turn 3 4;";
        Sentences.about(18, "Returns the coins of a machine after some rounds, if they were played now.");
        LetterAuction x = Check.of(text);
        for (int rounds = 1; rounds <= 20; rounds++) {
            LetterAuction played = Check.of(text);
            played.play(rounds);
            for (int machine = 0; machine < 2; machine++) {
                Check.same("coinsAfter(" + machine + ", " + rounds + ")", played.machine(machine, 1), x.coinsAfter(machine, rounds));
            }
        }
        // By hand: p pays 5 coins in each round for a letter, and 3 when its turn comes; then 13 are in the chest.
        LetterAuction y = Check.of("letters 2;machine p 20 1 1;machine q 5 1 1;go p 0 a 0;accept p 0;go q 0 b 0;"
            + "accept q 0;turn 2 3;");
        Check.same("after one round", 15, y.coinsAfter(0, 1));
        Check.same("after two rounds", 13, y.coinsAfter(0, 2));
        Check.same("q after two rounds", 11, y.coinsAfter(1, 2));
        Sentences.about(18, "`rounds`: 1 to 20");
        Check.same("silent rounds", 9, Check.of("letters 1;machine p 9 1 1;turn 20 0;").coinsAfter(0, 20));
        Sentences.about(18, "Throws `IllegalArgumentException` if rounds is out of range");
        Check.outsideArgument("coinsAfter(0, rounds)", 1, 20, rounds -> x.coinsAfter(0, rounds));
        Check.outsideArgument("coinsAfter(1, rounds)", 1, 20, rounds -> x.coinsAfter(1, rounds));
        Check.outsideArgument("coinsAfter(0, rounds) of a full word", 1, 20,
            rounds -> Recipes.withLetters(60).coinsAfter(0, rounds));
        Sentences.about(18, "Throws `IndexOutOfBoundsException` if there is no such machine (checked first)");
        for (int rounds : new int[] {1, 20, 0, 21, -1}) {
            Check.outsideIndex("coinsAfter(m, " + rounds + ")", 0, 1, m -> x.coinsAfter(m, rounds));
            Check.outsideIndex("coinsAfter(m, " + rounds + ") of none", 0, -1, m -> new LetterAuction().coinsAfter(m, rounds));
        }
    }

    private static void coinsAfterUntilFull() {
        Sentences.about(18, "Returns the coins after them, or after those that can be played until the word is full.");
        LetterAuction full = Recipes.withLetters(60);
        LetterAuction x = Recipes.withLetters(57);
        int[] coins = {Recipes.withLetters(58).machine(0, 1), Recipes.withLetters(59).machine(0, 1), full.machine(0, 1)};
        for (int rounds = 1; rounds <= 20; rounds++) {
            Check.same("coinsAfter(0, " + rounds + ") of 57 letters", coins[Math.min(rounds, 3) - 1], x.coinsAfter(0, rounds));
            Check.same("coinsAfter(0, " + rounds + ") of 60 letters", coins[2], full.coinsAfter(0, rounds));
        }
        Check.yes("each round costs coins", coins[0] != coins[1] && coins[1] != coins[2]);
        // Silent rounds go on, as they do not fill the word.
        LetterAuction silent = Check.of("letters 1;machine p 99 1 1;machine q 0 1 1;turn 1 1;");
        Check.same("p after 19 turns", 98, silent.coinsAfter(0, 19));
        Check.same("q after 19 turns", 1, silent.coinsAfter(1, 19));
        Check.same("p after 20 turns", 98, silent.coinsAfter(0, 20));
        Check.same("q after 20 turns", 0, silent.coinsAfter(1, 20));
    }

    private static void play() {
        Sentences.about(28, "Plays rounds, one after the other, until the word is full.");
        Check.same("play(20) is the same as 20 times play(1)", Whole.now(played(20)), Whole.now(played(1)));
        Check.same("play(20) is the same as 4 times play(5)", Whole.now(played(20)), Whole.now(played(5)));
        Sentences.about(28, "`rounds`: 1 to 20");
        LetterAuction x = Check.of("letters 1;machine p 9 1 1;go p 0 a 0;accept p 0;tire p 0 22;turn 20 9;");
        Sentences.about(28, "Returns the number of letters that were told.");
        Check.same("play(1)", 1, x.play(1));
        Check.same("play(20)", 20, x.play(20));
        Check.same("rounds", 21, x.size(3));
        LetterAuction y = Check.of("letters 1;machine p 9 1 1;go p 0 a 0;accept p 0;tire p 0 3;turn 20 99;");
        Check.same("three letters, and two silent rounds", 3, y.play(5));
        Check.same("silent rounds alone", 0, y.play(20));
        Check.same("until the word is full", 3, Recipes.withLetters(57).play(20));
        Sentences.about(28, "Throws `IllegalArgumentException` if rounds is out of range (checked first)");
        Check.outsideArgument("play", 1, 20, y::play);
        Check.outsideArgument("play without machines", 1, 20, new LetterAuction()::play);
        Check.outsideArgument("play of a full word", 1, 20, rounds -> Recipes.withLetters(60).play(rounds));
        Sentences.about(28, "Throws `IllegalStateException` if the word is full already");
        for (int rounds : new int[] {1, 2, 19, 20}) {
            Check.raisesState("play(" + rounds + ")", () -> Recipes.withLetters(60).play(rounds));
            Check.same("one letter is left", 1, Recipes.withLetters(59).play(rounds));
        }
    }

    /** The undo history is cleared, so that it does not differ. */
    private static LetterAuction played(int rounds) {
        LetterAuction x = Recipes.parsed();
        for (int n = 0; n < 20; n += rounds) {
            x.play(rounds);
        }
        x.saveSnapshot(0);
        x.restoreSnapshot(0);
        return x;
    }
}
