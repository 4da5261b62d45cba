import java.util.List;
import java.util.function.Consumer;

/** Promises 26, 27 and 29 to 35: log, account, buy, reset, give, setWeight, undo, snapshots. */
final class ChangeTests {
    private static final String TEXT = "letters 2;machine x 20 3 3;machine y 8 2 2 listens;machine z 1 1 1 listens;"
        + "go x 0 a 1;go x 1 a 1;go x 1 b 2;go x 2 b 0;accept x 1;go y 0 a 1;go y 1 a 0;accept y 1;go z 0 b 0;"
        + "tire x 1 2;tire y 1 4;turn 3 2;";

    private ChangeTests() {
    }

    static void run() {
        log();
        account();
        buy();
        buyThrows();
        reset();
        give();
        setWeight();
        undo();
        undoOfEach();
        snapshots();
        coinsAreKept();
    }

    private static void log() {
        LetterAuction x = Check.of(TEXT);
        Check.same("log(0, 0) of nothing", -1, x.log(0, 0));
        Check.raisesArgument("log(0, 4)", () -> x.log(0, 4));
        Check.raisesArgument("log(0, -1)", () -> x.log(0, -1));
        Check.raisesArgument("log(-1, 4)", () -> x.log(-1, 4));
        x.play(1);
        x.buy(0, 1);
        x.play(1);
        // The last one: x bids 17 for b, y bids 7 for a.
        int[][] due = {{1, 7, 1, 1}, {1, 3, 1, 1}, {0, 0, 3, 0}, {-1, -1, -1, -1}};
        for (int k = 0; k < due.length; k++) {
            for (int part = 0; part < 4; part++) {
                Check.same("log(" + k + ", " + part + ")", due[k][part], x.log(k, part));
            }
        }
        Check.same("log(-1, 0)", -1, x.log(-1, 0));
        Check.same("log(least, 0)", -1, x.log(Integer.MIN_VALUE, 0));
        Check.same("log(greatest, 0)", -1, x.log(Integer.MAX_VALUE, 0));
        LetterAuction many = new LetterAuction();
        many.play(20);
        Check.same("20 entries", 0, many.log(19, 3));
        Check.same("no 21st entry", -1, many.log(20, 3));
        many.play(3);
        Check.same("the latest of 23", 22, many.log(0, 3));
        Check.same("the oldest that is kept", 3, many.log(19, 3));
        Check.same("still no 21st entry", -1, many.log(20, 3));
        many.undo();
        Check.same("undo: the latest", 19, many.log(0, 3));
        Check.same("undo: the oldest is there again", 0, many.log(19, 3));
    }

    private static void account() {
        LetterAuction x = Check.of(TEXT);
        for (int what = 0; what <= 5; what++) {
            Check.same("account(" + what + ") at first", 0, x.account(what));
        }
        Check.raisesArgument("account(-1)", () -> x.account(-1));
        Check.raisesArgument("account(6)", () -> x.account(6));
        // Letter a for nothing; z balks and pays its coin.
        x.play(1);
        accountsAre(x, 0, 0, 1, 0, 0, 0);
        x.buy(0, 1);
        Check.same("y balks", 1, x.machine(1, 6));
        Check.same("z goes", 1, x.machine(2, 5));
        accountsAre(x, 0, 3, 2, 0, 0, 0);
        x.reset(1);
        accountsAre(x, 0, 3, 2, 4, 0, 0);
        Check.same("chest", 9, x.size(4));
        x.play(2);
        // x pays 3 for b and y balks; then both go by a for nothing, z balks without coins, and x pays 2 for its turn.
        Check.same("the chest of 15 is shared by three", 0, x.size(4));
        accountsAre(x, 3, 3, 3, 6, 15, 0);
        LetterAuction parsed = x;
        Check.parse(parsed, TEXT);
        accountsAre(parsed, 0, 0, 0, 0, 0, 0);
    }

    private static void accountsAre(LetterAuction x, int... due) {
        for (int what = 0; what < due.length; what++) {
            Check.same("account(" + what + ")", due[what], x.account(what));
        }
    }

    private static void buy() {
        LetterAuction x = Check.of(TEXT);
        Check.same("buy", 1, x.buy(0, 0));
        Check.same("pays its weight", 17, x.machine(0, 1));
        Check.same("to the chest, with the coin of z", 4, x.size(4));
        Check.same("goes", 1, x.machine(0, 0));
        Check.same("its state tires", 1, x.strength(0, 1));
        Check.same("went", 1, x.machine(0, 5));
        Check.same("does not read it again", 0, x.machine(0, 6));
        Check.same("y reads it", 1, x.machine(1, 0));
        Check.same("y's state tires", 3, x.strength(1, 1));
        Check.same("z balks", 1, x.machine(2, 6));
        Check.same("the letter", 0, x.letter(0));
        Check.same("no round", 0, x.size(3));
        Check.same("log: price", 3, x.log(0, 1));
        Check.same("log: who bought it", 1, x.log(0, 2));
        Check.same("log: round", 0, x.log(0, 3));
        Check.same("bought by another", 2, x.buy(1, 0));
        Check.same("log: another who bought it", 2, x.log(0, 2));
        Check.same("x does not listen", 1, x.machine(0, 5));
        Check.same("account", 5, x.account(1));
        // A machine that listens goes once by the letter that it buys.
        Check.same("y went twice", 2, x.machine(1, 5));
        Check.same("changes", 2, x.size(8));
        // A letter to a state without a distance can be bought; the coins may be just the weight.
        LetterAuction y = Check.of("letters 1;machine x 4 4 2;go x 0 a 1;go x 1 a 1;");
        Check.same("buy for all coins", 1, y.buy(0, 0));
        Check.same("no coins are left", 0, y.machine(0, 1));
        // Buying is no round: no turn comes by it.
        LetterAuction z = Check.of("letters 1;machine x 9 1 2;go x 0 a 1;go x 1 a 1;accept x 1;turn 1 1;");
        z.buy(0, 0);
        Check.same("no turn", 1, z.machine(0, 0));
        Check.same("the chest is not shared", 1, z.size(4));
    }

    private static void buyThrows() {
        LetterAuction x = Check.of(TEXT);
        Check.raisesIndex("buy(3, 0)", () -> x.buy(3, 0));
        Check.raisesIndex("buy(-1, 0)", () -> x.buy(-1, 0));
        Check.raisesIndex("buy(0, 2)", () -> x.buy(0, 2));
        Check.raisesIndex("buy(0, -1)", () -> x.buy(0, -1));
        Check.raisesIndex("buy(2, 2): before z's lack of a way", () -> x.buy(2, 2));
        Check.raisesState("no way by the letter", () -> x.buy(0, 1));
        x.setWeight(2, 2);
        Check.raisesState("too few coins", () -> x.buy(2, 1));
        Check.same("a throw is no change", 1, x.size(8));
        x.buy(0, 0);
        x.buy(0, 0);
        String before = Whole.now(x);
        Check.raisesState("a tired state", () -> x.buy(0, 0));
        Check.same("a throw changes nothing", before, Whole.now(x));
        LetterAuction full = Check.of("letters 1;machine x 9 1 1;go x 0 a 0;accept x 0;");
        full.play(20);
        full.play(20);
        full.play(19);
        Check.same("the last letter", 60, full.buy(0, 0));
        Check.raisesState("the word is full", () -> full.buy(0, 0));
        Check.raisesIndex("the letter is checked first", () -> full.buy(0, 1));
    }

    private static void reset() {
        LetterAuction x = Check.of(TEXT);
        x.buy(0, 0);
        x.buy(0, 1);
        Check.same("reset", 10, x.reset(0));
        Check.same("state", 0, x.machine(0, 0));
        Check.same("strength", 2, x.strength(0, 1));
        Check.same("the turn stays", 0, x.size(5));
        Check.same("the chest is not shared: 6 bought, 4 reset, 2 balked", 12, x.size(4));
        Check.same("the word stays", 2, x.size(2));
        Check.same("the log stays", 1, x.log(0, 0));
        Check.same("account", 4, x.account(3));
        Check.raisesIndex("reset(3)", () -> x.reset(3));
        Check.raisesIndex("reset(-1)", () -> x.reset(-1));
        Check.raisesState("reset without coins", () -> x.reset(2));
        x.give(0, 2, 4);
        Check.same("reset with just the coins", 0, x.reset(2));
        x.give(1, 2, 3);
        Check.raisesState("reset with a coin too few", () -> x.reset(2));
        Check.same("changes", 6, x.size(8));
        LetterAuction dear = Check.of("letters 1;machine x 101 1 1;machine y 199 1 1;machine z 198 1 1;turn 1 99;");
        Check.raisesState("two of three coins", () -> dear.reset(0));
        Check.same("twice 99", 1, dear.reset(1));
        Check.same("just twice 99", 0, dear.reset(2));
        LetterAuction free = Check.of("letters 1;machine x 0 1 1;turn 1 0;");
        Check.same("twice 0", 0, free.reset(0));
    }

    private static void give() {
        LetterAuction x = Check.of(TEXT);
        Check.same("give", 13, x.give(0, 1, 5));
        Check.same("given", 15, x.machine(0, 1));
        Check.same("give to itself", 15, x.give(0, 0, 15));
        Check.same("give nothing", 13, x.give(0, 1, 0));
        Check.same("give all", 28, x.give(0, 1, 15));
        Check.same("changes, also those that alter nothing", 4, x.size(8));
        Check.raisesState("give of what it has not", () -> x.give(0, 1, 1));
        Check.raisesState("to itself", () -> x.give(0, 0, 1));
        Check.raisesArgument("give(0, 1, -1)", () -> x.give(0, 1, -1));
        Check.raisesArgument("give(0, 1, 1000): before the lack of coins", () -> x.give(0, 1, 1000));
        Check.raisesState("give(0, 1, 999)", () -> x.give(0, 1, 999));
        Check.raisesIndex("give(3, 0, 1000): the machines are checked first", () -> x.give(3, 0, 1000));
        Check.raisesIndex("give(0, 3, 1000)", () -> x.give(0, 3, 1000));
        Check.raisesIndex("give(-1, 0, 0)", () -> x.give(-1, 0, 0));
        Check.raisesIndex("give(0, -1, 0)", () -> x.give(0, -1, 0));
        Check.same("nothing comes to the chest", 0, x.size(4));
        LetterAuction rich = Check.of("letters 1;machine x 999 1 1;machine y 999 1 1;");
        Check.same("give(0, 1, 999)", 1998, rich.give(0, 1, 999));
    }

    private static void setWeight() {
        LetterAuction x = Check.of(TEXT);
        Check.same("setWeight", 3, x.setWeight(0, 9));
        Check.same("weight", 9, x.machine(0, 2));
        Check.same("setWeight again", 9, x.setWeight(0, 1));
        Check.same("bid", 7, x.bid(0));
        x.buy(0, 0);
        Check.same("price of what is bought", 1, x.log(0, 1));
        Check.raisesArgument("setWeight(0, 0)", () -> x.setWeight(0, 0));
        Check.raisesArgument("setWeight(0, 10)", () -> x.setWeight(0, 10));
        Check.raisesIndex("setWeight(3, 0): the machine is checked first", () -> x.setWeight(3, 0));
        Check.raisesIndex("setWeight(-1, 1)", () -> x.setWeight(-1, 1));
        Check.same("changes", 3, x.size(8));
    }

    private static void undo() {
        LetterAuction x = Check.of(TEXT);
        Check.same("nothing to undo", -1, x.undo());
        for (int n = 1; n <= 13; n++) {
            x.setWeight(0, n % 9 + 1);
            Check.same("changes after " + n, Math.min(n, 10), x.size(8));
        }
        for (int left = 9; left >= 0; left--) {
            Check.same("undo", left, x.undo());
            Check.same("weight with " + left + " left", (3 + left) % 9 + 1, x.machine(0, 2));
        }
        Check.same("only 10 are kept", -1, x.undo());
        Check.same("the weight after the third change", 4, x.machine(0, 2));
        x.setWeight(0, 9);
        Check.same("a change after undos", 0, x.undo());
        Check.same("its weight", 4, x.machine(0, 2));
    }

    private static void undoOfEach() {
        List<Consumer<LetterAuction>> changes = List.of(x -> x.play(1), x -> x.play(4), x -> x.buy(1, 0), x -> x.reset(0),
            x -> x.give(0, 1, 2), x -> x.setWeight(1, 9));
        for (int left = changes.size() - 1; left >= 0; left--) {
            LetterAuction x = changed(changes);
            for (int n = changes.size() - 1; n >= left; n--) {
                Check.same("undo leaves", n, x.undo());
            }
            Check.same("undo of all changes but " + left, Whole.now(changed(changes.subList(0, left))), Whole.now(x));
        }
    }

    private static LetterAuction changed(List<Consumer<LetterAuction>> changes) {
        LetterAuction x = Check.of(TEXT);
        changes.forEach(change -> change.accept(x));
        return x;
    }

    private static void snapshots() {
        LetterAuction x = Check.of(TEXT);
        Check.raisesIndex("saveSnapshot(2)", () -> x.saveSnapshot(2));
        Check.raisesIndex("saveSnapshot(-1)", () -> x.saveSnapshot(-1));
        Check.raisesIndex("restoreSnapshot(2)", () -> x.restoreSnapshot(2));
        Check.raisesIndex("restoreSnapshot(-1)", () -> x.restoreSnapshot(-1));
        Check.raisesState("slot 0 is empty", () -> x.restoreSnapshot(0));
        x.play(2);
        Check.no("saveSnapshot(0)", x.saveSnapshot(0));
        Check.same("saving is no change", 1, x.size(8));
        Check.raisesState("slot 1 is empty", () -> x.restoreSnapshot(1));
        x.undo();
        String atFirst = Whole.now(x);
        Check.no("saveSnapshot(1)", x.saveSnapshot(1));
        Check.yes("saveSnapshot(1) again", x.saveSnapshot(1));
        x.play(5);
        x.setWeight(0, 7);
        Check.same("restoreSnapshot(0)", 2, x.restoreSnapshot(0));
        LetterAuction two = Check.of(TEXT);
        two.play(2);
        two.undo();
        two.play(2);
        Check.same("nothing to undo", 0, x.size(8));
        Check.same("undo", -1, x.undo());
        x.give(0, 0, 0);
        Check.same("all as after two rounds", Whole.now(two), Whole.now(x));
        Check.same("restoreSnapshot(1)", 0, x.restoreSnapshot(1));
        Check.same("all as at first", atFirst, Whole.now(x));
        x.play(3);
        Check.same("the slot stays stored", 0, x.restoreSnapshot(1));
        Check.same("and is not what was played", atFirst, Whole.now(x));
        x.play(1);
        Check.yes("saveSnapshot(0) in place of an earlier one", x.saveSnapshot(0));
        x.play(1);
        Check.same("the later one", 1, x.restoreSnapshot(0));
        // Another word of the same length must not stay.
        LetterAuction y = Check.of("letters 2;machine x 50 1 1;go x 0 a 0;go x 0 b 0;accept x 0;");
        y.buy(0, 1);
        y.buy(0, 0);
        y.saveSnapshot(0);
        y.undo();
        y.undo();
        y.buy(0, 0);
        y.buy(0, 1);
        y.buy(0, 1);
        Check.same("the word of the snapshot", 2, y.restoreSnapshot(0));
        Check.same("its letter 0", 1, y.letter(0));
        Check.same("its letter 1", 0, y.letter(1));
        Check.same("its end", -1, y.letter(2));
    }

    private static void coinsAreKept() {
        LetterAuction x = Check.of("letters 3;machine x 99 3 3 listens;machine y 77 7 2 listens;machine z 50 2 4;"
            + "go x 0 a 1;go x 1 b 2;go x 2 c 0;accept x 2;go y 0 b 1;go y 1 a 0;go y 0 a 0;accept y 1;"
            + "go z 0 c 0;go z 0 b 3;accept z 0;accept z 3;tire z 0 9;turn 3 7;");
        for (int n = 0; n < 60 && x.size(2) < 60; n++) {
            x.play(n % 3 + 1);
            int all = x.size(4);
            for (int machine = 0; machine < 3; machine++) {
                all += x.machine(machine, 1);
                Check.yes("coins are not below 0", x.machine(machine, 1) >= 0);
            }
            Check.same("coins of all together", 226, all);
        }
    }
}
