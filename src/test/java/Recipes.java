/** Auctions in which much stands that a call could spoil; each call makes the same one anew. */
final class Recipes {
    static final String TEXT = "letters 2;machine x 60 3 3;machine y 40 2 2 listens;machine z 3 1 1 listens;"
        + "go x 0 a 1;go x 1 a 1;go x 1 b 2;go x 2 b 0;accept x 1;go y 0 a 1;go y 1 a 0;accept y 1;go z 0 b 0;"
        + "tire x 1 6;tire y 1 9;turn 3 2;";

    private Recipes() {
    }

    static LetterAuction fresh() {
        return new LetterAuction();
    }

    static LetterAuction parsed() {
        return of(TEXT);
    }

    /** Ten changes of all kinds can be undone, both slots and the buffer are filled, and the last parse failed. */
    static LetterAuction busy() {
        LetterAuction x = of(TEXT);
        x.play(2);
        x.setWeight(1, 4);
        x.buy(1, 0);
        x.saveSnapshot(0);
        x.give(0, 2, 5);
        x.play(1);
        x.reset(0);
        x.buy(0, 0);
        x.buy(0, 1);
        x.saveSnapshot(1);
        x.give(1, 1, 0);
        x.play(4);
        x.setWeight(0, 2);
        x.give(2, 0, 1);
        x.reset(1);
        Check.parse(x, "letters 1;machine q 1 1 1;accept q 1;");
        Check.feed(x, "letters 3;machine q 7 7 2;");
        return x;
    }

    /** The word has as many letters as told, 40 at the least; each of them was told in a round of its own. */
    static LetterAuction withLetters(int letters) {
        LetterAuction x = of("letters 2;machine x 900 1 2;machine y 500 1 1 listens;go x 0 a 1;go x 1 a 1;go x 0 b 1;accept x 1;"
            + "go y 0 b 0;accept y 0;turn 20 9;");
        x.play(20);
        x.play(20);
        for (int n = 40; n < letters; n++) {
            x.play(1);
        }
        return x;
    }

    /** Four machines of six states, all of which tire, go together by each letter that one of them buys. */
    static LetterAuction large() {
        StringBuilder text = new StringBuilder("letters 4;turn 7 5;");
        for (String name : new String[] {"p", "q", "r", "s"}) {
            text.append("machine ").append(name).append(" 99 1 6 listens;");
            text.append("go . 0 a 5;go . 5 b 0;go . 0 d 5;go . 5 c 5;accept . 5;tire . 0 98;tire . 5 99;".replace(".", name));
        }
        return of(text.toString());
    }

    /** Has each machine of a large one in turn buy the next letter of a way. */
    static void go(LetterAuction large, String way) {
        for (int n = 0; n < way.length(); n++) {
            large.buy(n % 4, way.charAt(n) - 'a');
        }
    }

    private static LetterAuction of(String text) {
        LetterAuction x = new LetterAuction();
        if (Check.parse(x, text) != 0) {
            throw new IllegalArgumentException(text);
        }
        return x;
    }
}
