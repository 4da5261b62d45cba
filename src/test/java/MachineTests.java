/** Promises 5 to 11: size, machine, strength, isAccepting, goes, distance, whyNotBid. */
final class MachineTests {
    private static final String TEXT = "letters 3;machine x 20 2 4 listens;machine y 7 9 6;"
        + "go x 0 a 1;go x 0 b 2;go x 1 a 3;go x 2 a 0;go x 3 c 3;accept x 3;tire x 1 2;tire x 3 99;turn 7 8;";

    private MachineTests() {
    }

    static void run() {
        size();
        machine();
        strength();
        isAcceptingAndGoes();
        distance();
        distanceOfTired();
        whyNotBid();
    }

    private static void size() {
        LetterAuction x = Check.of(TEXT);
        int[] due = {2, 3, 0, 0, 0, 0, 7, 8, 0};
        for (int what = 0; what < due.length; what++) {
            Check.same("size(" + what + ")", due[what], x.size(what));
        }
        Check.raisesArgument("size(-1)", () -> x.size(-1));
        Check.raisesArgument("size(9)", () -> x.size(9));
        x.play(7);
        Check.same("letters of the word", 7, x.size(2));
        Check.same("rounds that are over", 7, x.size(3));
        Check.same("turn", 1, x.size(5));
        Check.same("chest: 8 for the turn, shared by two", 0, x.size(4));
        Check.same("changes", 1, x.size(8));
    }

    private static void machine() {
        LetterAuction x = Check.of(TEXT);
        int[] dueX = {0, 20, 2, 4, 1, 0, 0};
        int[] dueY = {0, 7, 9, 6, 0, 0, 0};
        for (int what = 0; what < dueX.length; what++) {
            Check.same("machine(0, " + what + ")", dueX[what], x.machine(0, what));
            Check.same("machine(1, " + what + ")", dueY[what], x.machine(1, what));
        }
        Check.raisesArgument("machine(0, 7)", () -> x.machine(0, 7));
        Check.raisesArgument("machine(0, -1)", () -> x.machine(0, -1));
        Check.raisesIndex("machine(2, 0)", () -> x.machine(2, 0));
        Check.raisesIndex("machine(-1, 0)", () -> x.machine(-1, 0));
        Check.raisesIndex("machine(2, 7): the machine is checked first", () -> x.machine(2, 7));
        x.play(2);
        Check.same("state", 3, x.machine(0, 0));
        Check.same("letters by which it went", 2, x.machine(0, 5));
    }

    private static void strength() {
        LetterAuction x = Check.of(TEXT);
        Check.same("never tires", -1, x.strength(0, 0));
        Check.same("tires after 2", 2, x.strength(0, 1));
        Check.same("tires after 99", 99, x.strength(0, 3));
        Check.same("never tires, of another machine", -1, x.strength(1, 1));
        Check.raisesIndex("strength(0, 4)", () -> x.strength(0, 4));
        Check.raisesIndex("strength(0, -1)", () -> x.strength(0, -1));
        Check.raisesIndex("strength(2, 0)", () -> x.strength(2, 0));
        Check.raisesIndex("strength(-1, 0)", () -> x.strength(-1, 0));
        x.play(1);
        Check.same("entered once", 1, x.strength(0, 1));
        Check.same("still never tires", -1, x.strength(0, 0));
        x.play(3);
        Check.same("entered again from itself", 96, x.strength(0, 3));
    }

    private static void isAcceptingAndGoes() {
        LetterAuction x = Check.of(TEXT);
        Check.yes("isAccepting(0, 3)", x.isAccepting(0, 3));
        Check.no("isAccepting(0, 2)", x.isAccepting(0, 2));
        Check.no("isAccepting(1, 3)", x.isAccepting(1, 3));
        Check.raisesIndex("isAccepting(0, 4)", () -> x.isAccepting(0, 4));
        Check.raisesIndex("isAccepting(0, -1)", () -> x.isAccepting(0, -1));
        Check.raisesIndex("isAccepting(2, 0)", () -> x.isAccepting(2, 0));
        Check.same("goes(0, 0, 0)", 1, x.goes(0, 0, 0));
        Check.same("goes(0, 0, 1)", 2, x.goes(0, 0, 1));
        Check.same("goes(0, 0, 2)", -1, x.goes(0, 0, 2));
        Check.same("goes(0, 3, 2)", 3, x.goes(0, 3, 2));
        Check.same("goes(1, 0, 0)", -1, x.goes(1, 0, 0));
        Check.raisesIndex("goes(0, 0, 3)", () -> x.goes(0, 0, 3));
        Check.raisesIndex("goes(0, 0, -1)", () -> x.goes(0, 0, -1));
        Check.raisesIndex("goes(0, 4, 0)", () -> x.goes(0, 4, 0));
        Check.raisesIndex("goes(0, -1, 0)", () -> x.goes(0, -1, 0));
        Check.raisesIndex("goes(2, 0, 0)", () -> x.goes(2, 0, 0));
        LetterAuction tired = Check.of("letters 1;machine x 5 1 1;go x 0 a 0;accept x 0;tire x 0 1;");
        tired.play(1);
        Check.same("goes to a tired state", 0, tired.goes(0, 0, 0));
    }

    private static void distance() {
        LetterAuction x = Check.of(TEXT);
        int[] due = {2, 1, 3, 0};
        for (int state = 0; state < due.length; state++) {
            Check.same("distance(0, " + state + ")", due[state], x.distance(0, state));
        }
        Check.same("no distance", -1, x.distance(1, 5));
        Check.raisesIndex("distance(0, 4)", () -> x.distance(0, 4));
        Check.raisesIndex("distance(0, -1)", () -> x.distance(0, -1));
        Check.raisesIndex("distance(2, 0)", () -> x.distance(2, 0));
        LetterAuction chain = Check.of("letters 1;machine x 5 1 6;go x 0 a 1;go x 1 a 2;go x 2 a 3;go x 3 a 4;go x 4 a 5;"
            + "accept x 5;");
        for (int state = 0; state < 6; state++) {
            Check.same("chain: distance(0, " + state + ")", 5 - state, chain.distance(0, state));
        }
        Check.same("chain: the worth of the first letter is weight * (7 - 4)", 3, chain.bid(0));
    }

    private static void distanceOfTired() {
        // Two ways to state 3: the short one by state 1, which tires, and a long one by 2 and 4.
        LetterAuction x = Check.of("letters 2;machine x 99 1 5;go x 0 a 1;go x 1 a 3;go x 0 b 2;go x 2 b 4;go x 4 b 3;"
            + "go x 3 a 0;accept x 3;tire x 1 1;tire x 3 2;");
        Check.same("before: distance of 0", 2, x.distance(0, 0));
        x.buy(0, 0);
        Check.same("a strength becomes less", 0, x.strength(0, 1));
        Check.same("from a tired state it can go on", 1, x.distance(0, 1));
        Check.same("the way by a tired state is closed", 3, x.distance(0, 0));
        x.buy(0, 0);
        Check.same("strength of the accepting state", 1, x.strength(0, 3));
        Check.same("strengths do not become less on the way", 3, x.distance(0, 0));
        Check.same("an accepting state", 0, x.distance(0, 3));
        x.buy(0, 0);
        x.buy(0, 1);
        x.buy(0, 1);
        x.buy(0, 1);
        Check.same("the accepting state is tired", 0, x.strength(0, 3));
        Check.same("a tired state that accepts has distance 0", 0, x.distance(0, 3));
        Check.same("but none comes to it", -1, x.distance(0, 4));
        Check.same("nor from farther", -1, x.distance(0, 0));
        x.reset(0);
        Check.same("after a reset", 2, x.distance(0, 0));
    }

    private static void whyNotBid() {
        // a: none, b: tired later, c: to a state without a distance, d: to an accepting one.
        LetterAuction x = Check.of("letters 4;machine x 3 1 3;machine y 0 1 2;go x 0 b 0;go x 0 c 1;go x 0 d 2;accept x 2;"
            + "go x 2 a 2;go x 2 b 2;go x 2 d 0;tire x 0 1;go y 0 a 1;go y 0 b 0;accept y 1;");
        Check.same("1 no go", 1, x.whyNotBid(0, 0));
        Check.same("5 another is greater", 5, x.whyNotBid(0, 1));
        Check.same("3 no distance", 3, x.whyNotBid(0, 2));
        Check.same("0 bids", 0, x.whyNotBid(0, 3));
        Check.same("4 no coins", 4, x.whyNotBid(1, 0));
        Check.same("4 before 5", 4, x.whyNotBid(1, 1));
        Check.same("1 before 4", 1, x.whyNotBid(1, 2));
        Check.raisesIndex("whyNotBid(0, 4)", () -> x.whyNotBid(0, 4));
        Check.raisesIndex("whyNotBid(0, -1)", () -> x.whyNotBid(0, -1));
        Check.raisesIndex("whyNotBid(2, 0)", () -> x.whyNotBid(2, 0));
        Check.raisesIndex("whyNotBid(-1, 0)", () -> x.whyNotBid(-1, 0));
        x.buy(0, 1);
        Check.same("2 tired", 2, x.whyNotBid(0, 1));
        x.give(0, 1, 2);
        Check.same("2 before 4", 2, x.whyNotBid(0, 1));
        Check.same("3 before 4", 3, x.whyNotBid(0, 2));
        x.give(1, 0, 1);
        x.buy(0, 3);
        Check.same("the same worth and first: bids when it has coins", 4, x.whyNotBid(0, 0));
        x.give(1, 0, 1);
        Check.same("first of the same worth", 0, x.whyNotBid(0, 0));
        Check.same("5 the same and later", 5, x.whyNotBid(0, 1));
        Check.same("2 tired state", 2, x.whyNotBid(0, 3));
    }
}
