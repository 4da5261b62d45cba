/** Promises 26 and 27, and the Description's LOG, at their boundaries. */
final class LogBoundaries {
    private static final int LEAST = Integer.MIN_VALUE;
    private static final int MOST = Integer.MAX_VALUE;

    private LogBoundaries() {
    }

    static void run() {
        latestTwenty();
        parts();
        machinesAsBits();
        outside();
        accounts();
        accountsOfCoins();
        accountsOfTurns();
        accountsSinceParse();
    }

    private static final String KEPT = "The latest 20 entries are kept: of each round (also a silent one, with the "
        + "letter NONE and the price 0) "
        + "and of each letter that is bought: the letter, the price, the machines that bid for it (or the one that "
        + "bought it) as bits, and the number of the round (the number of rounds that were over before it).";

    private static void latestTwenty() {
        Sentences.about(26, "LOG", KEPT);
        // A silent round, a bought letter of price 3, and so on: with the price told apart.
        LetterAuction x = Check.of("letters 1;machine p 999 3 1;go p 0 a 0;turn 20 0;");
        for (int n = 1; n <= 45; n++) {
            if (n % 2 == 1) {
                x.play(1);
            } else {
                x.buy(0, 0);
            }
            Check.same("the latest of " + n, n % 2 == 1 ? 0 : 3, x.log(0, 1));
            Check.same("its round", n / 2, x.log(0, 3));
            int oldest = Math.min(n, 20) - 1;
            Check.same("the oldest of " + n, (n - oldest) / 2, x.log(oldest, 3));
            Check.same("none behind it", -1, x.log(oldest + 1, 3));
        }
        for (int k = 0; k < 20; k++) {
            Check.same("entry " + k + " of 45: letter", k % 2 == 0 ? -1 : 0, x.log(k, 0));
            Check.same("entry " + k + " of 45: price", k % 2 == 0 ? 0 : 3, x.log(k, 1));
            Check.same("entry " + k + " of 45: machines", k % 2, x.log(k, 2));
            Check.same("entry " + k + " of 45: round", (45 - k) / 2, x.log(k, 3));
        }
        for (int rounds = 19; rounds <= 21; rounds++) {
            LetterAuction none = new LetterAuction();
            none.play(18);
            none.play(rounds - 18);
            Check.same("entry 18 of " + rounds, rounds - 19, none.log(18, 3));
            Check.same("entry 19 of " + rounds, rounds == 19 ? -1 : rounds - 20, none.log(19, 3));
            Check.same("entry 20 of " + rounds, -1, none.log(20, 3));
        }
    }

    private static void parts() {
        Sentences.about(26, "`part`: 0 the letter, 1 the price, 2 the machines as bits, 3 the number of the round");
        LetterAuction x = Check.of("letters 4;machine p 9 1 1;machine q 5 2 1;machine r 9 3 1;go p 0 d 0;accept p 0;"
            + "go q 0 a 0;accept q 0;go r 0 d 0;turn 20 0;");
        x.play(1);
        x.buy(2, 3);
        x.play(1);
        Sentences.about(26, "`k`: 0 for the latest entry");
        // p has 4 coins left, so that q wins.
        entry(x, 0, 0, 4, 2, 1);
        Sentences.about(26, "Returns a part of an entry of the log.");
        entry(x, 1, 3, 3, 4, 1);
        entry(x, 2, 3, 5, 1, 0);
        Sentences.about(26, "NONE if there are not so many entries, or k is negative.");
        for (int k : new int[] {3, 4, 19, 20, MOST, -1, -2, LEAST}) {
            entry(x, k, -1, -1, -1, -1);
            entry(new LetterAuction(), k, -1, -1, -1, -1);
        }
        entry(new LetterAuction(), 0, -1, -1, -1, -1);
        Sentences.about(26, "Returns the part");
        LetterAuction silent = new LetterAuction();
        silent.play(1);
        entry(silent, 0, -1, 0, 0, 0);
        entry(silent, 1, -1, -1, -1, -1);
    }

    private static void entry(LetterAuction x, int k, int... due) {
        for (int part = 0; part < 4; part++) {
            Check.same("log(" + k + ", " + part + ")", due[part], x.log(k, part));
        }
    }

    private static void machinesAsBits() {
        Sentences.about(26, "LOG", KEPT);
        for (int bidders = 0; bidders < 16; bidders++) {
            StringBuilder text = new StringBuilder("letters 2;turn 20 0;");
            for (int m = 0; m < 4; m++) {
                char name = "pqrs".charAt(m);
                text.append("machine ").append(name).append((bidders >> m & 1) == 1 ? " 9" : " 0").append(" 1 1 listens;");
                text.append("go ").append(name).append(" 0 a 0;accept ").append(name).append(" 0;");
            }
            LetterAuction x = Check.of(text.toString());
            x.play(1);
            Check.same("machines of a round", bidders, x.log(0, 2));
        }
        LetterAuction four = Check.of("letters 2;machine p 9 1 1;machine q 9 1 1;machine r 9 1 1;machine s 9 1 1 listens;"
            + "go p 0 b 0;go q 0 b 0;go r 0 b 0;go s 0 b 0;turn 20 0;");
        for (int machine = 0; machine < 4; machine++) {
            four.buy(machine, 1);
            entry(four, 0, 1, 1, 1 << machine, 0);
        }
    }

    private static void outside() {
        Sentences.about(26, "Throws `IllegalArgumentException` if part is out of range");
        LetterAuction x = new LetterAuction();
        for (int k : new int[] {0, 19, 20, -1, LEAST, MOST}) {
            Check.outsideArgument("log(" + k + ", part) of none", 0, 3, part -> x.log(k, part));
            Check.outsideArgument("log(" + k + ", part) of many", 0, 3, part -> Recipes.busy().log(k, part));
        }
        Sentences.about(27, "Throws `IllegalArgumentException` if what is out of range");
        Check.outsideArgument("account", 0, 5, x::account);
        Check.outsideArgument("account of an auction with machines", 0, 5, Recipes.busy()::account);
    }

    private static final String ACCOUNTS = "`what`: 0 prices of rounds that were paid, 1 coins paid for letters that "
        + "were bought, 2 coins paid by machines that balked, 3 coins paid for resets (by turns and out of turn), "
        + "4 coins that machines got from the chest, 5 silent rounds";

    private static void accountsAre(LetterAuction x, String when, int... due) {
        for (int what = 0; what <= 5; what++) {
            Check.same("account(" + what + ") " + when, due[what], x.account(what));
        }
    }

    private static void accounts() {
        Sentences.about(27, ACCOUNTS);
        // p bids 7 for a, q 5 for b; r listens and has two coins; all of them together buy, too.
        LetterAuction x = Check.of("letters 2;machine p 99 1 1;machine q 5 3 1;machine r 2 1 1 listens;go p 0 a 0;"
            + "accept p 0;go q 0 b 0;accept q 0;turn 20 2;");
        accountsAre(x, "at first", 0, 0, 0, 0, 0, 0);
        x.play(1);
        accountsAre(x, "after a round for 5", 5, 0, 1, 0, 0, 0);
        x.buy(1, 1);
        accountsAre(x, "after a letter for 3", 5, 3, 2, 0, 0, 0);
        x.play(1);
        accountsAre(x, "after a round for the 2 coins that are left to q", 7, 3, 2, 0, 0, 0);
        x.reset(0);
        accountsAre(x, "after a reset out of turn", 7, 3, 2, 4, 0, 0);
        x.give(1, 2, 2);
        accountsAre(x, "after a gift", 7, 3, 2, 4, 0, 0);
        x.play(1);
        accountsAre(x, "after a round for nothing", 7, 3, 3, 4, 0, 0);
        x.setWeight(0, 9);
        x.saveSnapshot(0);
        accountsAre(x, "after what costs nothing", 7, 3, 3, 4, 0, 0);
        Check.same("all of it is in the chest", 17, x.size(4));
    }

    private static void accountsOfCoins() {
        Sentences.about(27, ACCOUNTS);
        LetterAuction x = Check.of("letters 1;machine p 3 1 1;machine q 0 1 1;go p 0 a 0;turn 20 0;");
        for (int n = 1; n <= 4; n++) {
            x.play(1);
            accountsAre(x, "after " + n + " silent rounds", 0, 0, 0, 0, 0, n);
        }
        for (int n = 1; n <= 3; n++) {
            x.buy(0, 0);
            accountsAre(x, "after " + n + " letters for 1", 0, n, 0, 0, 0, 4);
        }
        Check.raisesState("a letter more", () -> x.buy(0, 0));
        accountsAre(x, "after a letter that could not be bought", 0, 3, 0, 0, 0, 4);
        x.reset(1);
        accountsAre(x, "after a reset for nothing", 0, 3, 0, 0, 0, 4);
        x.undo();
        x.undo();
        accountsAre(x, "after the last letter was undone", 0, 2, 0, 0, 0, 4);
    }

    private static void accountsOfTurns() {
        Sentences.about(27, ACCOUNTS);
        LetterAuction x = Check.of("letters 1;machine p 5 1 1;machine q 1 1 1;turn 1 3;");
        x.play(1);
        accountsAre(x, "a turn for 3, of which each of two gets 1", 0, 0, 0, 3, 2, 1);
        x.play(1);
        accountsAre(x, "a turn that q cannot pay with 2 coins", 0, 0, 0, 3, 2, 2);
        x.play(1);
        accountsAre(x, "a turn for 3 of p's 3 coins, and a chest of 4", 0, 0, 0, 6, 6, 3);
        x.give(1, 0, 4);
        x.reset(0);
        accountsAre(x, "a reset out of turn for 6", 0, 0, 0, 12, 6, 3);
    }

    private static void accountsSinceParse() {
        Sentences.about(27, "Returns a sum since parse.");
        LetterAuction x = Recipes.busy();
        accountsAre(x, "before the parse", 38, 10, 10, 10, 63, 0);
        x.parse(0);
        accountsAre(x, "after a parse that failed", 38, 10, 10, 10, 63, 0);
        Check.parse(x, Recipes.TEXT);
        accountsAre(x, "after a parse", 0, 0, 0, 0, 0, 0);
        LetterAuction none = new LetterAuction();
        accountsAre(none, "of a new object", 0, 0, 0, 0, 0, 0);
        none.play(20);
        accountsAre(none, "of a new object after 20 rounds", 0, 0, 0, 0, 0, 20);
    }
}
