import java.util.List;
import java.util.function.Consumer;

/** Promises 29 to 35, and the Description's CHANGES, at their boundaries. */
final class ChangeBoundaries {
    private ChangeBoundaries() {
    }

    static void run() {
        constants();
        numbers();
        whatIsAChange();
        whatIsNoChange();
        latestTen();
        twoSlots();
        snapshotHoldsEverything();
        snapshotHoldsTheMost();
        parseClears();
        buyForWeight();
        buyOfLastLetter();
        buyIsRead();
        buyWithoutAWay();
        resetForTwice();
        resetAlone();
        give();
        giveThrows();
        setWeight();
        undo();
        undoOfTheMost();
        saveSnapshot();
        restoreSnapshot();
    }

    private static void constants() {
        Sentences.about(0, "The constants", "`NONE = -1`: Returned if there is no result.");
        Check.same("NONE", -1, LetterAuction.NONE);
        Check.same("no letter", LetterAuction.NONE, new LetterAuction().letter(0));
    }

    private static void numbers() {
        Sentences.about(0, "What it is", "Machines, states and letters are numbered from 0 (letter 0 is a, 1 is b, and so on).");
        LetterAuction x = Check.of("letters 4;machine p 9 1 2;machine q 8 1 1;go p 0 a 0;go p 0 d 1;");
        Check.same("the first machine", 9, x.machine(0, 1));
        Check.same("the second machine", 8, x.machine(1, 1));
        Check.same("a", 0, x.goes(0, 0, 0));
        Check.same("d", 1, x.goes(0, 0, 3));
        x.buy(0, 0);
        x.buy(0, 3);
        Check.same("the letter d", 3, x.letter(1));
        Sentences.about(0, "What it is", "All numbers are integers; all divisions truncate.");
        LetterAuction y = Check.of("letters 2;machine p 7 9 1;machine q 14 9 1;machine r 11 9 1;go p 0 a 0;accept p 0;"
            + "go q 0 a 0;accept q 0;go r 0 b 0;accept r 0;turn 1 99;");
        Check.same("11 * 7 / 21, and one of the rest", 4, y.pays(0));
        Check.same("11 * 14 / 21", 7, y.pays(1));
        y.play(1);
        Check.same("11 / 3", 9, y.account(4));
        Check.same("the rest", 2, y.size(4));
    }

    /** Changes that alter something and changes that alter nothing but the history. */
    private static void whatIsAChange() {
        Sentences.about(33, "CHANGES", "The methods from play to setWeight are changes if they throw no exception, "
            + "also if they alter nothing.");
        List<Consumer<LetterAuction>> changes = List.of(y -> y.play(1), y -> y.buy(0, 0), y -> y.reset(0), y -> y.give(0, 1, 1),
            y -> y.setWeight(0, 9), y -> y.give(0, 1, 0), y -> y.give(0, 0, 5), y -> y.setWeight(0, 3));
        for (int i = 0; i < changes.size(); i++) {
            LetterAuction x = Recipes.parsed();
            String before = Whole.now(x);
            changes.get(i).accept(x);
            Check.same("changes after change " + i, 1, x.size(8));
            Check.same("undo of change " + i, 0, x.undo());
            Check.same("all as before change " + i, before, Whole.now(x));
            Check.same("nothing more to undo after change " + i, -1, x.undo());
        }
        LetterAuction free = Check.of("letters 1;machine p 0 1 1;turn 4 0;");
        free.reset(0);
        Check.same("a reset for nothing that alters nothing", 1, free.size(8));
        LetterAuction none = new LetterAuction();
        none.play(1);
        Check.same("a silent round without machines", 1, none.size(8));
    }

    private static void whatIsNoChange() {
        Sentences.about(33, "CHANGES", "The methods from play to setWeight are changes if they throw no exception, "
            + "also if they alter nothing.");
        LetterAuction x = Recipes.parsed();
        Check.raisesArgument("play(0)", () -> x.play(0));
        Check.raisesState("buy(0, 1)", () -> x.buy(0, 1));
        Check.raisesState("reset(2)", () -> x.reset(2));
        Check.raisesState("give(2, 0, 4)", () -> x.give(2, 0, 4));
        Check.raisesArgument("setWeight(0, 0)", () -> x.setWeight(0, 0));
        Check.same("none that threw is a change", 0, x.size(8));
        x.append(0, 0, 0, 0, 0);
        x.parse(0);
        x.saveSnapshot(0);
        x.saveSnapshot(1);
        x.coinsAfter(0, 20);
        Check.same("nothing else is a change", 0, x.size(8));
        Check.same("undo", -1, x.undo());
    }

    private static void latestTen() {
        for (int changes : new int[] {0, 1, 2, 9, 10, 11, 12, 25}) {
            Sentences.about(33, "CHANGES", "The latest 10 changes can be undone, the latest first.");
            LetterAuction x = new LetterAuction();
            for (int n = 0; n < changes; n++) {
                x.play(n % 3 + 1);
            }
            int kept = Math.min(changes, 10);
            Check.same("changes that can be undone of " + changes, kept, x.size(8));
            int rounds = x.size(3);
            for (int left = kept - 1; left >= 0; left--) {
                Sentences.about(33, "Returns the number of changes that can still be undone");
                Check.same("undo of " + changes, left, x.undo());
                Check.same("changes that are left of " + changes, left, x.size(8));
                rounds -= (changes - kept + left) % 3 + 1;
                Check.same("rounds of " + changes + " with " + left + " left", rounds, x.size(3));
            }
            Sentences.about(33, "NONE if there was none to undo.");
            Check.same("undo of " + changes + " more often than 10 times", -1, x.undo());
            Check.same("undo of " + changes + " once more", -1, x.undo());
            Check.same("rounds of " + changes + ", as before", rounds, x.size(3));
        }
    }

    private static void twoSlots() {
        Sentences.about(34, "CHANGES", "There are two snapshot slots, 0 and 1");
        LetterAuction x = new LetterAuction();
        Check.no("slot 0", x.saveSnapshot(0));
        x.play(3);
        Check.no("slot 1", x.saveSnapshot(1));
        x.play(4);
        x.restoreSnapshot(0);
        Check.same("rounds in slot 0", 0, x.size(3));
        x.restoreSnapshot(1);
        Check.same("rounds in slot 1", 3, x.size(3));
        Sentences.about(34, "Throws `IndexOutOfBoundsException` if there is no such slot");
        Check.outsideIndex("saveSnapshot", 0, 1, x::saveSnapshot);
        Sentences.about(35, "Throws `IndexOutOfBoundsException` if there is no such slot (checked first)");
        Check.outsideIndex("restoreSnapshot", 0, 1, x::restoreSnapshot);
        Check.outsideIndex("restoreSnapshot with empty slots", 0, 1, slot -> new LetterAuction().restoreSnapshot(slot));
    }

    private static void snapshotHoldsEverything() {
        Sentences.about(35, "CHANGES", "a snapshot holds everything that changes can change.");
        List<Consumer<LetterAuction>> changes = List.of(y -> y.play(1), y -> y.play(20), y -> y.buy(0, 0), y -> y.reset(0),
            y -> y.give(0, 1, 1), y -> y.setWeight(0, 9), y -> changeAll(y));
        for (int slot = 0; slot <= 1; slot++) {
            for (int i = 0; i < changes.size(); i++) {
                LetterAuction x = Recipes.parsed();
                x.play(3);
                x.saveSnapshot(slot);
                x.restoreSnapshot(slot);
                String before = Whole.now(x);
                changes.get(i).accept(x);
                Check.no("change " + i + " alters something", before.equals(Whole.now(x)));
                x.restoreSnapshot(slot);
                Check.same("slot " + slot + " after change " + i, before, Whole.now(x));
            }
        }
        // What comes after it may be less than what it holds, too.
        LetterAuction x = Recipes.busy();
        x.saveSnapshot(0);
        x.restoreSnapshot(0);
        String before = Whole.now(x);
        x.restoreSnapshot(1);
        x.restoreSnapshot(0);
        Check.same("after an earlier one", before, Whole.now(x));
    }

    /** Of the greatest size, with more entries in the log than are kept; the first slot holds what was before them. */
    private static LetterAuction most() {
        LetterAuction x = Recipes.large();
        x.saveSnapshot(0);
        Recipes.go(x, "acbdbdccb".repeat(5));
        x.play(3);
        x.give(3, 0, 20);
        x.setWeight(3, 7);
        x.saveSnapshot(1);
        x.restoreSnapshot(1);
        return x;
    }

    private static void snapshotHoldsTheMost() {
        Sentences.about(35, "CHANGES", "a snapshot holds everything that changes can change.");
        Check.same("letters", 48, most().size(2));
        for (int slot = 0; slot <= 1; slot++) {
            // Other letters and entries come to the places of the first ones.
            LetterAuction x = most();
            x.restoreSnapshot(0);
            Recipes.go(x, "dbab".repeat(15).substring(0, 47));
            x.restoreSnapshot(slot);
            Check.same("slot " + slot, Whole.now(slot == 0 ? Recipes.large() : most()), Whole.now(x));
        }
    }

    /** The history holds as much as a snapshot. */
    private static void undoOfTheMost() {
        Sentences.about(33, "Undoes the latest change that has not been undone.");
        LetterAuction x = most();
        x.play(12);
        Check.same("the word is full", 60, x.size(2));
        x.undo();
        Check.same("all as before", Whole.now(most()), Whole.now(x));
    }

    private static void changeAll(LetterAuction x) {
        x.play(4);
        x.buy(0, 0);
        x.reset(1);
        x.give(0, 2, 9);
        x.setWeight(2, 5);
    }

    private static void parseClears() {
        Sentences.about(3, "CHANGES", "A successful parse clears the undo history and empties both slots.");
        LetterAuction x = Recipes.busy();
        x.parse(0);
        Check.same("a parse that fails clears nothing", 10, x.size(8));
        Check.yes("a parse that fails empties no slot", x.saveSnapshot(0));
        Check.same("parse", 0, Check.parse(x, "letters 1;"));
        Check.same("changes", 0, x.size(8));
        Check.same("undo", -1, x.undo());
        Check.raisesState("slot 0", () -> x.restoreSnapshot(0));
        Check.raisesState("slot 1", () -> x.restoreSnapshot(1));
        Check.no("slot 0 had none", x.saveSnapshot(0));
        Check.no("slot 1 had none", x.saveSnapshot(1));
        for (int n = 1; n <= 11; n++) {
            x.play(1);
            Check.same("changes since the parse", Math.min(n, 10), x.size(8));
        }
    }

    private static void buyForWeight() {
        Sentences.about(29, "Lets a machine buy a letter for as many coins as its weight, which it pays to the chest.");
        for (int weight : new int[] {1, 5, 9}) {
            for (int coins = weight; coins <= weight + 1; coins++) {
                LetterAuction x = bought(coins, weight);
                Check.same("buy", 1, x.buy(0, 0));
                Check.same("coins", coins - weight, x.machine(0, 1));
                Check.same("chest", weight, x.size(4));
                Check.same("price in the log", weight, x.log(0, 1));
                Check.same("account", weight, x.account(1));
            }
            Sentences.about(29, "Throws `IllegalStateException` if the word is full, the machine cannot go by the letter, "
                + "or it has not so many coins");
            LetterAuction x = bought(weight - 1, weight);
            Check.raisesState("with " + (weight - 1) + " coins for " + weight, () -> x.buy(0, 0));
            Check.raisesState("without coins for " + weight, () -> bought(0, weight).buy(0, 0));
            Sentences.about(29, "Lets a machine buy a letter for as many coins as its weight, which it pays to the chest.");
        }
        LetterAuction x = bought(20, 9);
        x.setWeight(0, 2);
        x.buy(0, 0);
        Check.same("the weight that it has now", 18, x.machine(0, 1));
    }

    /** By a to a state without a distance, for which it does not bid. */
    private static LetterAuction bought(int coins, int weight) {
        return Check.of("letters 2;machine p " + coins + " " + weight + " 2;go p 0 a 1;go p 1 a 1;turn 1 0;");
    }

    private static void buyOfLastLetter() {
        Sentences.about(29, "The letter comes to the end of the word");
        LetterAuction x = Recipes.withLetters(58);
        Check.same("nothing at its end yet", -1, x.letter(58));
        Sentences.about(29, "Returns the number of letters of the word then.");
        Check.same("letter 58", 59, x.buy(1, 1));
        Check.same("the end", 1, x.letter(58));
        Check.same("letter 59", 60, x.buy(0, 0));
        Check.same("the end", 0, x.letter(59));
        Sentences.about(29, "Throws `IllegalStateException` if the word is full, the machine cannot go by the letter, "
            + "or it has not so many coins");
        Check.raisesState("letter 60", () -> x.buy(0, 0));
        Check.raisesState("letter 60", () -> x.buy(1, 1));
        Sentences.about(29, "This is no round.");
        LetterAuction y = bought(9, 1);
        y.buy(0, 0);
        Check.same("rounds", 0, y.size(3));
        Check.same("no reset", 1, y.machine(0, 0));
        Check.same("the chest is not shared", 1, y.size(4));
        Check.same("silent rounds", 0, y.account(5));
        Check.same("the turn", 0, y.size(5));
    }

    private static void buyIsRead() {
        Sentences.about(29, "the machine goes by it, and machines that listen read it as in a round.");
        for (int coins = 0; coins <= 2; coins++) {
            LetterAuction x = Check.of("letters 1;machine p 9 1 2 listens;machine q " + coins + " 1 1 listens;machine r 9 1 3 listens;"
                + "machine s 9 1 2;go p 0 a 1;go r 0 a 1;go r 1 a 2;go s 0 a 1;tire p 1 2;tire r 1 1;turn 20 0;");
            x.buy(0, 0);
            Check.same("the buyer goes once", 1, x.machine(0, 5));
            Check.same("the buyer's state", 1, x.strength(0, 1));
            Check.same("the buyer does not balk in its new state", 0, x.machine(0, 6));
            Check.same("one that cannot go balks", 1, x.machine(1, 6));
            Check.same("and pays, if it has a coin", Math.max(0, coins - 1), x.machine(1, 1));
            Check.same("to the account of balking", Math.min(1, coins), x.account(2));
            Check.same("one that can go goes, for nothing", 19, 10 * x.machine(2, 0) + x.machine(2, 1));
            Check.same("its state tires", 0, x.strength(2, 1));
            Check.same("one that does not listen stays", 0, x.machine(3, 5) + x.machine(3, 6) + x.machine(3, 0));
        }
    }

    private static void buyWithoutAWay() {
        Sentences.about(29, "Throws `IllegalStateException` if the word is full, the machine cannot go by the letter, "
            + "or it has not so many coins");
        LetterAuction x = Check.of("letters 2;machine p 9 1 1;go p 0 a 0;tire p 0 2;");
        Check.raisesState("no way by b", () -> x.buy(0, 1));
        Check.same("with strength 2", 1, x.buy(0, 0));
        Check.same("with strength 1", 2, x.buy(0, 0));
        Check.raisesState("with strength 0", () -> x.buy(0, 0));
        Sentences.about(29, "Throws `IndexOutOfBoundsException` if there is no such machine or letter (checked first)");
        Check.outsideIndex("buy(m, 0)", 0, 0, m -> x.buy(m, 0));
        Check.outsideIndex("buy(0, l)", 0, 1, l -> x.buy(0, l));
        Check.outsideIndex("buy(m, 2)", 0, 0, m -> x.buy(m, 2));
        LetterAuction full = Recipes.withLetters(60);
        Check.outsideIndex("buy(m, 0) of a full word", 0, 1, m -> full.buy(m, 0));
        Check.outsideIndex("buy(0, l) of a full word", 0, 1, l -> full.buy(0, l));
        LetterAuction poor = Check.of("letters 1;machine p 0 9 1;");
        Check.outsideIndex("buy(0, l) without coins or a way", 0, 0, l -> poor.buy(0, l));
        Check.outsideIndex("buy(m, 0) without machines", 0, -1, m -> new LetterAuction().buy(m, 0));
    }

    private static void resetForTwice() {
        for (int price : new int[] {0, 1, 50, 99}) {
            for (int coins = Math.max(0, 2 * price - 1); coins <= 2 * price + 1; coins++) {
                LetterAuction x = Check.of("letters 1;machine p " + coins + " 1 2;machine q 9 1 2 listens;go q 0 a 1;go p 0 a 1;"
                    + "tire p 1 4;turn 9 " + price + ";");
                x.give(1, 0, 1);
                x.buy(0, 0);
                if (coins < 2 * price) {
                    Sentences.about(30, "Throws `IllegalStateException` if it has not so many coins");
                    Check.raisesState("with " + coins + " coins for twice " + price, () -> x.reset(0));
                    Check.same("its state", 1, x.machine(0, 0));
                    Check.same("its strength", 3, x.strength(0, 1));
                    continue;
                }
                Sentences.about(30, "Resets a machine out of turn, for twice the price of a turn, which it pays to the chest: "
                    + "its states have their first strengths again, and it is in state 0.");
                Check.same("its state before", 1, x.machine(0, 0));
                Sentences.about(30, "Returns its coins then.");
                Check.same("reset with " + coins + " for twice " + price, coins - 2 * price, x.reset(0));
                Check.same("its coins", coins - 2 * price, x.machine(0, 1));
                Check.same("the chest, with the coin for the letter", 2 * price + 1, x.size(4));
                Check.same("its state", 0, x.machine(0, 0));
                Check.same("its strength", 4, x.strength(0, 1));
                Check.same("account", 2 * price, x.account(3));
            }
        }
        Sentences.about(30, "Throws `IndexOutOfBoundsException` if there is no such machine (checked first)");
        LetterAuction poor = Check.of("letters 1;machine p 0 1 1;machine q 0 1 1;");
        Check.outsideIndex("reset of two", 0, 1, poor::reset);
        Check.outsideIndex("reset of none", 0, -1, new LetterAuction()::reset);
    }

    private static void resetAlone() {
        Sentences.about(30, "The turns stay, and the chest is not shared.");
        LetterAuction x = Check.of("letters 1;machine p 90 1 2;machine q 90 1 2 listens;go p 0 a 1;go q 0 a 1;"
            + "tire p 1 4;tire q 1 4;turn 1 5;");
        x.buy(0, 0);
        x.reset(1);
        Check.same("whose turn is next", 0, x.size(5));
        Check.same("rounds", 0, x.size(3));
        Check.same("chest", 11, x.size(4));
        Check.same("coins from the chest", 0, x.account(4));
        Check.same("p is where it was", 1, x.machine(0, 0));
        Check.same("p's strength is as it was", 3, x.strength(0, 1));
        Check.same("q is in state 0", 0, x.machine(1, 0));
        Check.same("q's strength", 4, x.strength(1, 1));
        Check.same("letters by which q went", 1, x.machine(1, 5));
        Check.same("letters of the word", 1, x.size(2));
        Check.same("no entry in the log", -1, x.log(1, 0));
        x.reset(0);
        Check.same("whose turn is next, after the next one's reset", 0, x.size(5));
        LetterAuction full = Recipes.withLetters(60);
        Check.same("reset with a full word", full.machine(0, 1) - 18, full.reset(0));
        Check.same("letters of a full word", 60, full.size(2));
    }

    private static void give() {
        Sentences.about(31, "`coins`: 0 to 999");
        LetterAuction x = Check.of("letters 1;machine p 999 1 1;machine q 999 1 1;machine r 0 1 1;");
        Check.same("give 0", 999, x.give(0, 1, 0));
        Check.same("give 1", 1000, x.give(0, 1, 1));
        Check.same("give 999", 999, x.give(1, 2, 999));
        Check.same("give 998", 1997, x.give(0, 2, 998));
        Check.same("give 0 of 0", 1997, x.give(0, 2, 0));
        Sentences.about(31, "Lets a machine give coins to another one (or to itself).");
        Check.same("998 of 998 were given", 0, x.machine(0, 1));
        Check.same("999 of 1000 were given", 1, x.machine(1, 1));
        Check.same("all others were got", 1997, x.machine(2, 1));
        Check.same("the chest gets nothing", 0, x.size(4));
        for (int what = 0; what <= 5; what++) {
            Check.same("account(" + what + ")", 0, x.account(what));
        }
        Sentences.about(31, "Returns the coins of the other one then.");
        Check.same("to another one", 1000, x.give(2, 1, 999));
        Check.same("to itself 0 of 0", 0, x.give(0, 0, 0));
        Check.same("to itself 998 of 998", 998, x.give(2, 2, 998));
        Check.same("to itself 1 of 1000", 1000, x.give(1, 1, 1));
        Check.same("its coins stay", 998, x.machine(2, 1));
    }

    private static void giveThrows() {
        LetterAuction x = Check.of("letters 1;machine p 5 1 1;machine q 0 1 1;");
        Sentences.about(31, "Throws `IllegalStateException` if the machine has not so many coins");
        for (int other = 0; other <= 1; other++) {
            int o = other;
            Check.same("5 of 5", 5, x.give(0, o, 5));
            x.undo();
            Check.raisesState("6 of 5", () -> x.give(0, o, 6));
            Check.raisesState("999 of 5", () -> x.give(0, o, 999));
            Check.raisesState("1 of 0", () -> x.give(1, o, 1));
        }
        Sentences.about(31, "Throws `IllegalArgumentException` if coins is out of range (checked second)");
        for (int other = 0; other <= 1; other++) {
            int o = other;
            Check.outsideArgument("give(0, o, coins)", 0, 999, coins -> x.give(0, o, coins));
            Check.outsideArgument("give(1, o, coins) without coins", 0, 999, coins -> x.give(1, o, coins));
        }
        Sentences.about(31, "Throws `IndexOutOfBoundsException` if one of the machines does not exist (checked first)");
        for (int coins : new int[] {0, 1, 6, 999, -1, 1000, Integer.MIN_VALUE, Integer.MAX_VALUE}) {
            Check.outsideIndex("give(m, 0, " + coins + ")", 0, 1, m -> x.give(m, 0, coins));
            Check.outsideIndex("give(0, m, " + coins + ")", 0, 1, m -> x.give(0, m, coins));
            Check.outsideIndex("give(m, m, " + coins + ")", 0, 1, m -> x.give(m, m, coins));
            Check.raisesIndex("give(0, 0, " + coins + ") without machines", () -> new LetterAuction().give(0, 0, coins));
        }
    }

    private static void setWeight() {
        Sentences.about(32, "`weight`: 1 to 9");
        LetterAuction x = Check.of("letters 1;machine p 99 5 1;machine q 99 3 1;go p 0 a 0;accept p 0;");
        int previous = 5;
        for (int weight = 1; weight <= 9; weight++) {
            Check.same("setWeight(0, " + weight + ")", previous, x.setWeight(0, weight));
            Check.same("weight", weight, x.machine(0, 2));
            Check.same("bid", 7 * weight, x.bid(0));
            previous = weight;
        }
        Sentences.about(32, "Returns the previous weight.");
        Check.same("the same weight", 9, x.setWeight(0, 9));
        Check.same("a lower one", 9, x.setWeight(0, 8));
        Check.same("a greater one", 8, x.setWeight(0, 9));
        Check.same("of another machine, the one of the text", 3, x.setWeight(1, 4));
        Sentences.about(32, "Sets the weight of a machine.");
        Check.same("the one machine's", 9, x.machine(0, 2));
        Check.same("the other machine's", 4, x.machine(1, 2));
        x.reset(0);
        Check.same("a reset does not give back the first one", 9, x.machine(0, 2));
        Sentences.about(32, "Throws `IllegalArgumentException` if weight is out of range");
        Check.outsideArgument("setWeight(0, w)", 1, 9, w -> x.setWeight(0, w));
        Check.outsideArgument("setWeight(1, w)", 1, 9, w -> x.setWeight(1, w));
        Sentences.about(32, "Throws `IndexOutOfBoundsException` if there is no such machine (checked first)");
        for (int weight : new int[] {1, 9, 0, 10, -1}) {
            Check.outsideIndex("setWeight(m, " + weight + ")", 0, 1, m -> x.setWeight(m, weight));
            Check.outsideIndex("setWeight(m, " + weight + ") of none", 0, -1, m -> new LetterAuction().setWeight(m, weight));
        }
    }

    private static void undo() {
        Sentences.about(33, "Undoes the latest change that has not been undone.");
        LetterAuction x = Check.of("letters 1;machine p 9 1 1;");
        x.setWeight(0, 2);
        x.setWeight(0, 3);
        x.setWeight(0, 4);
        Check.same("undo", 2, x.undo());
        Check.same("the weight before the third change", 3, x.machine(0, 2));
        Check.same("undo", 1, x.undo());
        Check.same("the weight before the second change", 2, x.machine(0, 2));
        x.setWeight(0, 8);
        Check.same("changes", 2, x.size(8));
        Check.same("undo of a change after undos", 1, x.undo());
        Check.same("not what was undone already", 2, x.machine(0, 2));
        Check.same("undo", 0, x.undo());
        Check.same("the first weight", 1, x.machine(0, 2));
        Check.same("undo of nothing", -1, x.undo());
        Check.same("the weight stays", 1, x.machine(0, 2));
        Check.same("undo of a new object", -1, new LetterAuction().undo());
        // More changes than are kept, with undos between them.
        LetterAuction y = Check.of("letters 1;machine p 9 1 1;");
        for (int n = 0; n < 30; n++) {
            y.play(1);
            y.play(1);
            y.undo();
        }
        Check.same("rounds", 30, y.size(3));
        // The tenth was dropped for a change that was undone itself.
        for (int left = 8; left >= 0; left--) {
            Check.same("undo", left, y.undo());
            Check.same("rounds", 21 + left, y.size(3));
        }
        Check.same("undo of nothing", -1, y.undo());
    }

    private static void saveSnapshot() {
        for (int slot = 0; slot <= 1; slot++) {
            Sentences.about(34, "Returns whether there was an earlier one.");
            LetterAuction x = new LetterAuction();
            x.play(1);
            Check.no("the first one", x.saveSnapshot(slot));
            x.play(1);
            Check.yes("the second one", x.saveSnapshot(slot));
            Check.yes("the third one", x.saveSnapshot(slot));
            Check.no("in the other slot", x.saveSnapshot(1 - slot));
            Check.same("changes stay", 2, x.size(8));
            x.play(1);
            Sentences.about(34, "Saves a snapshot in a slot, in place of an earlier one.");
            x.restoreSnapshot(slot);
            Check.same("the later one", 2, x.size(3));
            Check.yes("after it was restored", x.saveSnapshot(slot));
        }
    }

    private static void restoreSnapshot() {
        LetterAuction x = Recipes.withLetters(59);
        x.saveSnapshot(0);
        for (int n = 0; n < 3; n++) {
            x.play(1);
            Sentences.about(35, "Returns the number of letters of the word then.");
            Check.same("restoreSnapshot(0)", 59, x.restoreSnapshot(0));
            Sentences.about(35, "Restores the snapshot of a slot, which stays stored.");
            Check.same("letters the " + n + ". time", 59, x.size(2));
            Sentences.about(35, "The undo history is cleared.");
            Check.same("changes", 0, x.size(8));
            Check.same("undo", -1, x.undo());
        }
        x.play(1);
        Check.same("a change after it", 0, x.undo());
        Check.same("leads to the snapshot", 59, x.size(2));
        Sentences.about(35, "Throws `IllegalStateException` if the slot is empty");
        Check.raisesState("slot 1", () -> x.restoreSnapshot(1));
        x.saveSnapshot(1);
        Check.same("slot 1", 59, x.restoreSnapshot(1));
        LetterAuction y = new LetterAuction();
        Check.raisesState("slot 0 of a new object", () -> y.restoreSnapshot(0));
        Check.raisesState("slot 1 of a new object", () -> y.restoreSnapshot(1));
        y.saveSnapshot(0);
        Check.same("slot 0 of no letters", 0, y.restoreSnapshot(0));
        Check.raisesState("slot 1 beside it", () -> y.restoreSnapshot(1));
    }
}
