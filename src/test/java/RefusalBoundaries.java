import java.util.function.Consumer;
import java.util.function.Supplier;

/** The Description's CHANGES: calls that are refused change nothing, and what they throw. */
final class RefusalBoundaries {
    private static final Class<IndexOutOfBoundsException> INDEX = IndexOutOfBoundsException.class;
    private static final Class<IllegalArgumentException> ARGUMENT = IllegalArgumentException.class;
    private static final Class<IllegalStateException> STATE = IllegalStateException.class;

    private final Supplier<LetterAuction> made;
    private final String before;

    private RefusalBoundaries(Supplier<LetterAuction> made) {
        this.made = made;
        this.before = Whole.of(made);
    }

    static void run() {
        busy();
        full();
        poor();
        fresh();
        whatIsCheckedFirst();
        othersThatChangeNothing();
    }

    private void refused(String call, Class<? extends RuntimeException> due, Consumer<LetterAuction> called) {
        Check.raises(call, due, () -> called.accept(made.get()));
        Check.same(call + " changes nothing", before, Whole.of(() -> {
            LetterAuction x = made.get();
            try {
                called.accept(x);
            } catch (RuntimeException e) {
                // What it is was looked at before.
            }
            return x;
        }));
    }

    private static void busy() {
        Sentences.about(33, "CHANGES", "A method that throws an exception changes nothing.");
        RefusalBoundaries all = new RefusalBoundaries(Recipes::busy);
        all.refused("parse(-1)", ARGUMENT, x -> x.parse(-1));
        all.refused("parse(41)", ARGUMENT, x -> x.parse(41));
        all.refused("size(9)", ARGUMENT, x -> x.size(9));
        all.refused("machine(3, 0)", INDEX, x -> x.machine(3, 0));
        all.refused("machine(0, 7)", ARGUMENT, x -> x.machine(0, 7));
        all.refused("strength(0, 3)", INDEX, x -> x.strength(0, 3));
        all.refused("isAccepting(1, 2)", INDEX, x -> x.isAccepting(1, 2));
        all.refused("goes(0, 0, 2)", INDEX, x -> x.goes(0, 0, 2));
        all.refused("distance(3, 0)", INDEX, x -> x.distance(3, 0));
        all.refused("whyNotBid(0, 2)", INDEX, x -> x.whyNotBid(0, 2));
        all.refused("bidLetter(3)", INDEX, x -> x.bidLetter(3));
        all.refused("bid(3)", INDEX, x -> x.bid(3));
        all.refused("sum(2)", INDEX, x -> x.sum(2));
        all.refused("pays(3)", INDEX, x -> x.pays(3));
        all.refused("coinsAfter(3, 1)", INDEX, x -> x.coinsAfter(3, 1));
        all.refused("coinsAfter(0, 21)", ARGUMENT, x -> x.coinsAfter(0, 21));
        all.refused("accepts(3)", INDEX, x -> x.accepts(3));
        all.refused("words(8, 1)", INDEX, x -> x.words(8, 1));
        all.refused("words(1, 21)", ARGUMENT, x -> x.words(1, 21));
        all.refused("shortest(8)", INDEX, x -> x.shortest(8));
        all.refused("shortestLetter(8, 0)", INDEX, x -> x.shortestLetter(8, 0));
        all.refused("differs(0, 3)", INDEX, x -> x.differs(0, 3));
        all.refused("log(0, 4)", ARGUMENT, x -> x.log(0, 4));
        all.refused("account(6)", ARGUMENT, x -> x.account(6));
        all.refused("play(0)", ARGUMENT, x -> x.play(0));
        all.refused("play(21)", ARGUMENT, x -> x.play(21));
        all.refused("buy(3, 0)", INDEX, x -> x.buy(3, 0));
        all.refused("buy(0, 2)", INDEX, x -> x.buy(0, 2));
        all.refused("buy(1, 1): no way", STATE, x -> x.buy(1, 1));
        all.refused("reset(-1)", INDEX, x -> x.reset(-1));
        all.refused("give(0, 3, 1)", INDEX, x -> x.give(0, 3, 1));
        all.refused("give(3, 0, 1)", INDEX, x -> x.give(3, 0, 1));
        all.refused("give(0, 1, 1000)", ARGUMENT, x -> x.give(0, 1, 1000));
        all.refused("give(0, 1, -1)", ARGUMENT, x -> x.give(0, 1, -1));
        all.refused("give(0, 1, 64): one too many", STATE, x -> x.give(0, 1, 64));
        all.refused("setWeight(3, 1)", INDEX, x -> x.setWeight(3, 1));
        all.refused("setWeight(0, 10)", ARGUMENT, x -> x.setWeight(0, 10));
        all.refused("setWeight(0, 0)", ARGUMENT, x -> x.setWeight(0, 0));
        all.refused("saveSnapshot(2)", INDEX, x -> x.saveSnapshot(2));
        all.refused("saveSnapshot(-1)", INDEX, x -> x.saveSnapshot(-1));
        all.refused("restoreSnapshot(2)", INDEX, x -> x.restoreSnapshot(2));
    }

    private static void full() {
        Sentences.about(28, "CHANGES", "A method that throws an exception changes nothing.");
        RefusalBoundaries all = new RefusalBoundaries(() -> Recipes.withLetters(60));
        all.refused("play(1)", STATE, x -> x.play(1));
        all.refused("play(20)", STATE, x -> x.play(20));
        all.refused("play(0)", ARGUMENT, x -> x.play(0));
        all.refused("buy(0, 0)", STATE, x -> x.buy(0, 0));
        all.refused("restoreSnapshot(0): empty", STATE, x -> x.restoreSnapshot(0));
        all.refused("restoreSnapshot(1): empty", STATE, x -> x.restoreSnapshot(1));
    }

    /** p has 4 coins for a weight of 5, and for a reset of 6; q's state is tired. */
    private static LetterAuction poorOne() {
        LetterAuction x = Check.of("letters 1;machine p 4 5 2;machine q 40 1 1;go p 0 a 1;go q 0 a 0;tire q 0 1;turn 9 3;");
        x.buy(1, 0);
        x.saveSnapshot(1);
        x.play(2);
        return x;
    }

    private static void poor() {
        Sentences.about(29, "CHANGES", "A method that throws an exception changes nothing.");
        RefusalBoundaries all = new RefusalBoundaries(RefusalBoundaries::poorOne);
        all.refused("buy(0, 0): too few coins", STATE, x -> x.buy(0, 0));
        all.refused("buy(1, 0): a tired state", STATE, x -> x.buy(1, 0));
        all.refused("reset(0): too few coins", STATE, x -> x.reset(0));
        all.refused("give(0, 1, 5): too few coins", STATE, x -> x.give(0, 1, 5));
        all.refused("give(0, 0, 5): too few coins", STATE, x -> x.give(0, 0, 5));
        all.refused("restoreSnapshot(0): empty", STATE, x -> x.restoreSnapshot(0));
        all.refused("parse(1): the buffer is empty", ARGUMENT, x -> x.parse(1));
    }

    private static void fresh() {
        Sentences.about(1, "CHANGES", "A method that throws an exception changes nothing.");
        RefusalBoundaries all = new RefusalBoundaries(Recipes::fresh);
        all.refused("parse(1)", ARGUMENT, x -> x.parse(1));
        all.refused("play(0)", ARGUMENT, x -> x.play(0));
        all.refused("buy(0, 0)", INDEX, x -> x.buy(0, 0));
        all.refused("reset(0)", INDEX, x -> x.reset(0));
        all.refused("give(0, 0, 0)", INDEX, x -> x.give(0, 0, 0));
        all.refused("setWeight(0, 1)", INDEX, x -> x.setWeight(0, 1));
        all.refused("restoreSnapshot(0)", STATE, x -> x.restoreSnapshot(0));
    }

    /** Each call has two reasons or more to be refused. */
    private static void whatIsCheckedFirst() {
        Sentences.about(6, "CHANGES", "Unless something else is said, a machine, state, letter or slot that does not "
            + "exist causes an IndexOutOfBoundsException, which is checked before any other exception.");
        LetterAuction x = Recipes.busy();
        Check.raisesIndex("machine(3, 7)", () -> x.machine(3, 7));
        Check.raisesIndex("coinsAfter(3, 0)", () -> x.coinsAfter(3, 0));
        Check.raisesIndex("words(8, 21)", () -> x.words(8, 21));
        Check.raisesIndex("give(3, 0, 1000)", () -> x.give(3, 0, 1000));
        Check.raisesIndex("give(0, 3, 1000)", () -> x.give(0, 3, 1000));
        Check.raisesIndex("give(0, -1, -1)", () -> x.give(0, -1, -1));
        Check.raisesIndex("setWeight(3, 10)", () -> x.setWeight(3, 10));
        LetterAuction full = Recipes.withLetters(60);
        Check.raisesIndex("buy(2, 0) of a full word", () -> full.buy(2, 0));
        Check.raisesIndex("buy(0, 2) of a full word", () -> full.buy(0, 2));
        Check.raisesArgument("play(0) of a full word", () -> full.play(0));
        Check.raisesArgument("play(21) of a full word", () -> full.play(21));
        LetterAuction poor = poorOne();
        Check.raisesIndex("buy(0, 1) with too few coins", () -> poor.buy(0, 1));
        Check.raisesIndex("reset(2)", () -> poor.reset(2));
        Check.raisesIndex("give(0, 2, 5) with too few coins", () -> poor.give(0, 2, 5));
        Check.raisesArgument("give(0, 1, 1000) with too few coins", () -> poor.give(0, 1, 1000));
        Check.raisesIndex("restoreSnapshot(2)", () -> new LetterAuction().restoreSnapshot(2));
        Check.raisesIndex("restoreSnapshot(-1)", () -> new LetterAuction().restoreSnapshot(-1));
    }

    /** Calls that throw nothing, and yet must leave all as it is. */
    private static void othersThatChangeNothing() {
        Sentences.about(33, "NONE if there was none to undo.");
        Check.same("undo of nothing", Whole.of(() -> undone(10)), Whole.of(() -> undone(12)));
        Sentences.about(2, "NONE, with nothing appended, if it would exceed 600.");
        Check.same("append to a full buffer", Whole.of(() -> filled(30)), Whole.of(() -> filled(33)));
        Sentences.about(5, "Returns a count, a setting or what is so now.");
        Check.same("all that is asked about machines and words", Whole.of(Recipes::busy), Whole.of(() -> {
            LetterAuction x = Recipes.busy();
            Whole.now(x);
            for (int machine = 0; machine < 3; machine++) {
                x.distance(machine, 0);
                x.whyNotBid(machine, 1);
                x.accepts(machine);
                x.differs(machine, 0);
            }
            x.isAgreed();
            x.words(7, 20);
            x.shortest(3);
            x.shortestLetter(3, 0);
            return x;
        }));
    }

    private static LetterAuction undone(int times) {
        LetterAuction x = Recipes.busy();
        for (int n = 0; n < times; n++) {
            x.undo();
        }
        return x;
    }

    private static LetterAuction filled(int times) {
        LetterAuction x = Recipes.parsed();
        Check.feed(x, "letters 4;");
        for (int n = 1; n < times; n++) {
            x.append(0x20202020, 0x20202020, 0x20202020, 0x20202020, 0x20202020);
        }
        return x;
    }
}
