import java.util.ArrayList;
import java.util.List;
import java.util.function.Supplier;

/**
 * Every method with every argument near an edge of any range, in several auctions: what it answers, and what stands after
 * it, is compared with NaiveAuction. No call may throw anything that the document does not name.
 */
final class GridTests {
    private static final int[] MANY = {Integer.MIN_VALUE, Integer.MIN_VALUE + 1, -65536, -2, -1, 0, 1, 2, 3, 4, 5, 6, 7, 8, 9, 10,
        14, 15, 16, 17, 19, 20, 21, 22, 59, 60, 61, 998, 999, 1000, 65536, 1 << 30, Integer.MAX_VALUE - 1, Integer.MAX_VALUE};
    private static final int[] FEW = {Integer.MIN_VALUE, -1, 0, 1, 2, 3, 4, 5, 6, 20, 998, 999, 1000, Integer.MAX_VALUE};
    private static final int MOST_CALLS = 300;

    private interface Recipe {
        void cook(GridTests pair);
    }

    private final LetterAuction x = new LetterAuction();
    private final NaiveAuction y = new NaiveAuction();
    private int calls = 0;

    private GridTests() {
    }

    static void run() {
        Sentences.about(6, "CHANGES", "Unless something else is said, a machine, state, letter or slot that does not "
            + "exist causes an IndexOutOfBoundsException, which is checked before any other exception.");
        List<Recipe> recipes = List.of(pair -> { }, GridTests::busy, GridTests::four, GridTests::full);
        for (Recipe recipe : recipes) {
            queriesOfOne(recipe);
            queriesOfTwo(recipe);
            goes(recipe);
            changes(recipe);
        }
    }

    // ---- recipes

    private static GridTests made(Recipe recipe) {
        GridTests pair = new GridTests();
        recipe.cook(pair);
        return pair;
    }

    private void parse(String text) {
        StringBuilder padded = new StringBuilder(text);
        while (padded.length() % 20 != 0) {
            padded.append(' ');
        }
        Check.feed(x, text);
        for (int at = 0; at < padded.length(); at += 20) {
            y.append(padded.substring(at, at + 20));
        }
        x.parse(text.length());
        y.parse(text.length());
    }

    private static void busy(GridTests pair) {
        pair.parse(Recipes.TEXT);
        pair.x.play(4);
        pair.y.play(4);
        pair.x.buy(0, 0);
        pair.y.buy(0, 0);
        pair.x.saveSnapshot(1);
        pair.y.saveSnapshot(1);
        pair.x.play(1);
        pair.y.play(1);
    }

    /** Four machines, the second of which is in its last state, with letters that tire the third. */
    private static void four(GridTests pair) {
        pair.parse("letters 4;machine p 999 9 6 listens;machine q 999 1 6;machine r 12 4 2 listens;machine s 0 1 1;"
            + "go p 0 a 5;go p 5 d 0;"
            + "go p 0 c 0;accept p 5;go q 0 a 5;go q 5 b 5;go q 5 d 0;accept q 5;go r 0 a 1;go r 1 a 1;go r 1 d 0;"
            + "accept r 1;tire r 1 1;go s 0 b 0;accept s 0;turn 5 6;");
        pair.x.play(2);
        pair.y.play(2);
        pair.x.setWeight(3, 2);
        pair.y.setWeight(3, 2);
    }

    private static void full(GridTests pair) {
        pair.parse("letters 2;machine p 999 3 2;machine q 500 1 1 listens;go p 0 a 1;go p 1 a 1;go p 0 b 1;accept p 1;"
            + "go q 0 b 0;accept q 0;turn 20 9;");
        for (int n = 0; n < 3; n++) {
            pair.x.play(20);
            pair.y.play(20);
        }
    }

    // ---- what is asked

    private static void queriesOfOne(Recipe recipe) {
        GridTests pair = made(recipe);
        for (int a : MANY) {
            pair.same("size", () -> pair.x.size(a), () -> pair.y.size(a), a);
            pair.same("bidLetter", () -> pair.x.bidLetter(a), () -> pair.y.bidLetter(a), a);
            pair.same("bid", () -> pair.x.bid(a), () -> pair.y.bid(a), a);
            pair.same("sum", () -> pair.x.sum(a), () -> pair.y.sum(a), a);
            pair.same("pays", () -> pair.x.pays(a), () -> pair.y.pays(a), a);
            pair.same("letter", () -> pair.x.letter(a), () -> pair.y.letter(a), a);
        }
        GridTests other = made(recipe);
        for (int a : MANY) {
            other.same("accepts", () -> other.x.accepts(a), () -> other.y.accepts(a), a);
            other.same("shortest", () -> other.x.shortest(a), () -> other.y.shortest(a), a);
            other.same("account", () -> other.x.account(a), () -> other.y.account(a), a);
        }
        other.same("winner", other.x::winner, other.y::winner);
        other.same("price", other.x::price, other.y::price);
        other.same("isAgreed", other.x::isAgreed, other.y::isAgreed);
        other.same("errorPosition", other.x::errorPosition, other.y::errorPosition);
    }

    private static void queriesOfTwo(Recipe recipe) {
        List<String> names = List.of("machine", "strength", "isAccepting", "distance", "whyNotBid", "coinsAfter", "words", "shortestLetter",
            "differs", "log");
        for (String name : names) {
            GridTests pair = made(recipe);
            for (int a : MANY) {
                for (int b : MANY) {
                    pair.two(name, a, b);
                    if (pair.calls >= MOST_CALLS) {
                        pair = made(recipe);
                    }
                }
            }
        }
    }

    private void two(String name, int a, int b) {
        switch (name) {
            case "machine" -> same(name, () -> x.machine(a, b), () -> y.machine(a, b), a, b);
            case "strength" -> same(name, () -> x.strength(a, b), () -> y.strength(a, b), a, b);
            case "isAccepting" -> same(name, () -> x.isAccepting(a, b), () -> y.isAccepting(a, b), a, b);
            case "distance" -> same(name, () -> x.distance(a, b), () -> y.distance(a, b), a, b);
            case "whyNotBid" -> same(name, () -> x.whyNotBid(a, b), () -> y.whyNotBid(a, b), a, b);
            case "coinsAfter" -> same(name, () -> x.coinsAfter(a, b), () -> y.coinsAfter(a, b), a, b);
            case "words" -> same(name, () -> x.words(a, b), () -> y.words(a, b), a, b);
            case "shortestLetter" -> same(name, () -> x.shortestLetter(a, b), () -> y.shortestLetter(a, b), a, b);
            case "differs" -> same(name, () -> x.differs(a, b), () -> y.differs(a, b), a, b);
            default -> same(name, () -> x.log(a, b), () -> y.log(a, b), a, b);
        }
    }

    private static void goes(Recipe recipe) {
        GridTests pair = made(recipe);
        for (int a : FEW) {
            for (int b : FEW) {
                for (int c : FEW) {
                    GridTests asked = pair;
                    pair.same("goes", () -> asked.x.goes(a, b, c), () -> asked.y.goes(a, b, c), a, b, c);
                    if (pair.calls >= MOST_CALLS) {
                        pair = made(recipe);
                    }
                }
            }
        }
    }

    // ---- changes, each with an auction of its own

    private static void changes(Recipe recipe) {
        for (int a : MANY) {
            changed(recipe, "parse", pair -> pair.x.parse(a), pair -> pair.y.parse(a), a);
            changed(recipe, "play", pair -> pair.x.play(a), pair -> pair.y.play(a), a);
            changed(recipe, "reset", pair -> pair.x.reset(a), pair -> pair.y.reset(a), a);
            changed(recipe, "saveSnapshot", pair -> pair.x.saveSnapshot(a), pair -> pair.y.saveSnapshot(a), a);
            changed(recipe, "restoreSnapshot", pair -> pair.x.restoreSnapshot(a), pair -> pair.y.restoreSnapshot(a), a);
            for (int b : MANY) {
                changed(recipe, "buy", pair -> pair.x.buy(a, b), pair -> pair.y.buy(a, b), a, b);
                changed(recipe, "setWeight", pair -> pair.x.setWeight(a, b), pair -> pair.y.setWeight(a, b), a, b);
            }
        }
        changed(recipe, "undo", pair -> pair.x.undo(), pair -> pair.y.undo());
        for (int a : FEW) {
            for (int b : FEW) {
                for (int c : FEW) {
                    changed(recipe, "give", pair -> pair.x.give(a, b, c), pair -> pair.y.give(a, b, c), a, b, c);
                }
            }
        }
    }

    private interface Of {
        Object pair(GridTests pair);
    }

    private static void changed(Recipe recipe, String name, Of got, Of due, int... arguments) {
        GridTests pair = made(recipe);
        pair.same(name, () -> got.pair(pair), () -> due.pair(pair), arguments);
        pair.same("all after " + name, () -> pair.ofProgram(), () -> pair.ofNaive(), arguments);
        pair.same("undo after " + name, pair.x::undo, pair.y::undo, arguments);
        pair.same("all after undo of " + name, () -> pair.ofProgram(), () -> pair.ofNaive(), arguments);
    }

    private String ofProgram() {
        return RandomTests.pictureOf(x::size, x::machine, x::strength, x::letter, x::account);
    }

    private String ofNaive() {
        return RandomTests.pictureOf(y::size, y::machine, y::strength, y::letter, y::account);
    }

    private void same(String name, Supplier<Object> got, Supplier<Object> due, int... arguments) {
        calls++;
        List<Integer> all = new ArrayList<>();
        for (int argument : arguments) {
            all.add(argument);
        }
        Check.same(name + " of " + all, RandomTests.outcome(due), RandomTests.outcome(got));
    }
}
