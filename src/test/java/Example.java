/** The example of README.md, which quotes it whole: what a call prints stands behind it. */
public final class Example {
    private static final String TEXT = """
        letters 2;
        machine ann 20 2 2;
        go ann 0 a 1; go ann 1 a 1; accept ann 1; tire ann 1 2;
        machine bob 9 1 2 listens;
        go bob 0 b 1; go bob 1 b 1; accept bob 1;
        turn 2 3;
        """;

    private Example() {
    }

    public static void main(String[] args) {
        LetterAuction x = new LetterAuction();
        append(x, TEXT);
        System.out.println(x.parse(TEXT.length()));  // 0: the text is an auction

        // The next round: ann bids 2 * 7 coins for a, and bob 1 * 7 for b.
        System.out.println(x.bid(0));                // 14
        System.out.println(x.bid(1));                // 7
        System.out.println(x.whyNotBid(1, 0));       // 1: the text does not tell where bob goes by a
        System.out.println(x.winner());              // 0: the letter a
        System.out.println(x.price());               // 7
        System.out.println(x.coinsAfter(0, 1));      // 13
        System.out.println(x.distance(1, 0));        // 1: one letter brings bob to a state that accepts

        // Two rounds: ann pays 7 coins in each; bob listens, and balks twice. Then it is the turn of ann, who pays 3 to
        // be reset, and each machine gets half of the 19 coins that are in the chest.
        System.out.println(x.play(2));               // 2: so many letters were told
        System.out.println(x.letter(1));             // 0: the second letter is an a, too
        System.out.println(x.letter(2));             // -1: NONE, as there is no third one
        System.out.println(x.machine(0, 0));         // 0: the state of ann
        System.out.println(x.machine(0, 1));         // 12: her coins, 20 - 7 - 7 - 3 + 9
        System.out.println(x.machine(1, 6));         // 2: so often bob balked
        System.out.println(x.size(4));               // 1: what is left in the chest
        System.out.println(x.log(0, 3));             // 1: the number of the round that was played last
        System.out.println(x.accepts(0));            // true: ann accepts the word aa

        // Words: ann accepts a, aa, aaa and so on, and bob b, bb, bbb. Machines are bits: 1 is ann, 3 is both.
        System.out.println(x.words(1, 5));           // 1
        System.out.println(x.words(0, 5));           // 32: without machines all words of 5 letters count
        System.out.println(x.shortest(3));           // -1: NONE, as they accept no word together
        System.out.println(x.differs(0, 1));         // 1: just one of them accepts the word a

        // Changes can be undone; a change that is refused throws, and changes nothing.
        System.out.println(x.give(1, 0, 5));         // 17: what ann has then
        System.out.println(x.undo());                // 1: the two rounds can be undone, too
        try {
            x.buy(0, 1);
        } catch (IllegalStateException e) {
            System.out.println("refused");           // refused: ann cannot go by b
        }
        System.out.println(x.size(8));               // 1: as before

        // A text that is no auction leaves all as it is, and empties the buffer.
        append(x, "letters 5;");
        System.out.println(x.parse(10));             // 3: a number out of its range
        System.out.println(x.errorPosition());       // 8: where the 5 stands
        System.out.println(x.size(1));               // 2: there are two letters, as before
    }

    /** Appends 20 bytes a call, four to each argument, and fills the last ones up with spaces. */
    private static void append(LetterAuction x, String text) {
        for (int at = 0; at < text.length(); at += 20) {
            x.append(four(text, at), four(text, at + 4), four(text, at + 8), four(text, at + 12), four(text, at + 16));
        }
    }

    private static int four(String text, int at) {
        int four = 0;
        for (int i = at; i < at + 4; i++) {
            four = four << 8 | (i < text.length() ? text.charAt(i) : ' ');
        }
        return four;
    }
}
