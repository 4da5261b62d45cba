import java.util.function.Supplier;

/** Runs of calls with arguments by a sequence of numbers that is always the same, compared with NaiveAuction. */
final class RandomTests {
    private static final String[] SIGNS = {" ", "\n", ";", "a", "b", "e", "z", "0", "1", "7", "99", "letters", "machine",
        "go", "accept", "tire", "turn", "listens", "abcdefgh", "abcdefghi", "999", "1000", "A", "-", "\t", "\u00e1", "\u0000"};

    private final LetterAuction x = new LetterAuction();
    private final NaiveAuction y = new NaiveAuction();
    private final int run;
    private long seed;
    private int calls = 0;

    private RandomTests(int run) {
        this.run = run;
        this.seed = run * 7919L + 17;
    }

    static void run() {
        for (int run = 1; run <= 1500; run++) {
            new RandomTests(run).oneRun();
        }
    }

    private int below(int bound) {
        seed = seed * 6364136223846793005L + 1442695040888963407L;
        return (int) ((seed >>> 33) % bound);
    }

    private int between(int least, int most) {
        return least + below(most - least + 1);
    }

    private void oneRun() {
        if (run % 20 != 0) {
            parse(text());
        }
        // Looking at all in the end takes calls, too, and no object is asked more than 512 times.
        while (calls < 330) {
            if (below(60) == 0) {
                String text = text();
                parse(below(4) == 0 ? text : spoilt(text));
            } else if (below(3) > 0) {
                change(below(14));
            } else {
                query(below(28));
            }
        }
        same("all in the end", () -> pictureOf(x::size, x::machine, x::strength, x::letter, x::account),
            () -> pictureOf(y::size, y::machine, y::strength, y::letter, y::account));
    }

    private void parse(String text) {
        String cut = text.substring(0, Math.min(text.length(), 600));
        for (int at = 0; at < cut.length() || at == 0; at += 20) {
            StringBuilder twenty = new StringBuilder(cut.substring(at, Math.min(at + 20, cut.length())));
            while (twenty.length() < 20) {
                twenty.append(' ');
            }
            int[] fours = new int[5];
            for (int i = 0; i < 20; i++) {
                fours[i / 4] = fours[i / 4] << 8 | twenty.charAt(i) & 255;
            }
            same("append", () -> x.append(fours[0], fours[1], fours[2], fours[3], fours[4]),
                () -> y.append(twenty.toString()));
        }
        int length = below(10) == 0 ? below(640) - 10 : cut.length();
        same("parse of " + cut.replace("\n", " "), () -> x.parse(length), () -> y.parse(length));
        same("errorPosition of " + cut.replace("\n", " "), x::errorPosition, y::errorPosition);
    }

    private String text() {
        StringBuilder text = new StringBuilder();
        int letters = between(1, 4);
        text.append("letters ").append(letters).append(';');
        int machines = below(12) == 0 ? 0 : between(1, 4);
        int scarce = below(3);
        int density = between(3, 9);
        for (int m = 0; m < machines; m++) {
            char name = (char) ('p' + m);
            int states = below(3) == 0 ? 6 : between(1, 6);
            int coins = scarce == 0 ? between(0, 15) : between(0, scarce == 1 ? 90 : 999);
            text.append("machine ").append(name).append(' ').append(coins).append(' ').append(between(1, 9)).append(' ');
            text.append(states).append(below(2) == 0 ? " listens;" : ";");
            for (int state = 0; state < states; state++) {
                for (int letter = 0; letter < letters; letter++) {
                    if (below(10) < density && text.length() < 560) {
                        text.append("go ").append(name).append(' ').append(state).append((char) ('a' + letter));
                        text.append(below(states)).append(';');
                    }
                }
                if (below(3) == 0 && text.length() < 560) {
                    text.append("accept ").append(name).append(' ').append(state).append(';');
                }
                if (below(3) == 0 && text.length() < 560) {
                    text.append("tire ").append(name).append(' ').append(state).append(' ').append(between(1, 6)).append(';');
                }
            }
        }
        if (below(4) > 0 && text.length() < 580) {
            text.append("turn ").append(between(1, 5)).append(' ').append(below(8)).append(';');
        }
        return text.toString();
    }

    private String spoilt(String text) {
        StringBuilder spoilt = new StringBuilder(text);
        for (int n = between(1, 2); n > 0; n--) {
            int at = below(spoilt.length());
            int kind = below(4);
            if (kind == 0) {
                spoilt.setLength(at);
                spoilt.append(' ');
            } else if (kind == 1) {
                spoilt.deleteCharAt(at).append(' ');
            } else if (kind == 2) {
                spoilt.insert(at, SIGNS[below(SIGNS.length)]);
            } else {
                spoilt.insert(spoilt.indexOf(";", at) + 1, "go p 0 a 0;accept p 0;tire p 0 1;machine p 1 1 1;turn 1 1;"
                    .split("(?<=;)")[below(5)]);
            }
        }
        return spoilt.toString();
    }

    private int machineArgument() {
        return below(25) == 0 ? between(-1, 4) : below(Math.max(1, y.size(0)));
    }

    private int letterArgument() {
        return below(25) == 0 ? between(-1, 4) : below(y.size(1));
    }

    private int stateArgument(int machine) {
        boolean known = machine >= 0 && machine < y.size(0);
        return !known || below(20) == 0 ? between(-1, 6) : below(y.machine(machine, 3));
    }

    private int setArgument() {
        return below(20) == 0 ? between(-2, 17) : below(1 << y.size(0));
    }

    private void change(int kind) {
        int m = machineArgument();
        int other = machineArgument();
        int letter = letterArgument();
        int rounds = below(30) == 0 ? between(-1, 22) : between(1, below(8) == 0 ? 20 : 3);
        int coins = below(15) == 0 ? between(-3, 1003) : below(12);
        int weight = below(15) == 0 ? between(-1, 11) : between(1, 9);
        int slot = below(10) == 0 ? between(-1, 2) : below(2);
        switch (kind) {
            case 0, 1, 2, 3 -> same("play(" + rounds + ")", () -> x.play(rounds), () -> y.play(rounds));
            case 4, 5, 6 -> same("buy(" + m + ", " + letter + ")", () -> x.buy(m, letter), () -> y.buy(m, letter));
            case 7 -> same("reset(" + m + ")", () -> x.reset(m), () -> y.reset(m));
            case 8, 9 -> same("give(" + m + ", " + other + ", " + coins + ")", () -> x.give(m, other, coins),
                () -> y.give(m, other, coins));
            case 10 -> same("setWeight(" + m + ", " + weight + ")", () -> x.setWeight(m, weight),
                () -> y.setWeight(m, weight));
            case 11 -> same("undo", x::undo, y::undo);
            case 12 -> same("saveSnapshot(" + slot + ")", () -> x.saveSnapshot(slot), () -> y.saveSnapshot(slot));
            default -> {
                // Rarely, so that words get long.
                if (below(4) == 0) {
                    same("restoreSnapshot(" + slot + ")", () -> x.restoreSnapshot(slot), () -> y.restoreSnapshot(slot));
                }
            }
        }
    }

    interface One {
        int of(int a);
    }

    interface Two {
        int of(int a, int b);
    }

    static String pictureOf(One size, Two machine, Two strength, One letter, One account) {
        StringBuilder all = new StringBuilder();
        for (int what = 0; what <= 8; what++) {
            all.append(size.of(what)).append(' ');
        }
        int machines = size.of(0);
        for (int m = 0; m < machines; m++) {
            for (int what = 0; what <= 6; what++) {
                all.append(machine.of(m, what)).append(' ');
            }
            int states = machine.of(m, 3);
            for (int state = 0; state < states; state++) {
                all.append(strength.of(m, state)).append(' ');
            }
        }
        int letters = size.of(2);
        for (int k = 0; k < letters; k++) {
            all.append(letter.of(k)).append(' ');
        }
        for (int what = 0; what <= 5; what++) {
            all.append(account.of(what)).append(' ');
        }
        return all.toString();
    }

    private void query(int kind) {
        int m = machineArgument();
        int other = machineArgument();
        int letter = letterArgument();
        int state = stateArgument(m);
        int set = setArgument();
        int what = between(-1, 9);
        int k = between(-1, 61);
        int length = between(below(20) == 0 ? -1 : 0, 21);
        int rounds = between(0, 21);
        switch (kind) {
            case 0 -> same("size(" + what + ")", () -> x.size(what), () -> y.size(what));
            case 1 -> same("machine(" + m + ", " + what + ")", () -> x.machine(m, what), () -> y.machine(m, what));
            case 2, 3 -> same("strength(" + m + ", " + state + ")", () -> x.strength(m, state), () -> y.strength(m, state));
            case 4 -> same("isAccepting", () -> x.isAccepting(m, state), () -> y.isAccepting(m, state));
            case 5 -> same("goes", () -> x.goes(m, state, letter), () -> y.goes(m, state, letter));
            case 6, 7 -> same("distance(" + m + ", " + state + ")", () -> x.distance(m, state), () -> y.distance(m, state));
            case 8, 9 -> same("whyNotBid(" + m + ", " + letter + ")", () -> x.whyNotBid(m, letter),
                () -> y.whyNotBid(m, letter));
            case 10 -> same("bidLetter(" + m + ")", () -> x.bidLetter(m), () -> y.bidLetter(m));
            case 11 -> same("bid(" + m + ")", () -> x.bid(m), () -> y.bid(m));
            case 12 -> same("sum(" + letter + ")", () -> x.sum(letter), () -> y.sum(letter));
            case 13 -> same("winner", x::winner, y::winner);
            case 14 -> same("price", x::price, y::price);
            case 15, 16 -> same("pays(" + m + ")", () -> x.pays(m), () -> y.pays(m));
            case 17 -> same("coinsAfter(" + m + ", " + rounds + ")", () -> x.coinsAfter(m, rounds),
                () -> y.coinsAfter(m, rounds));
            case 18 -> same("letter(" + k + ")", () -> x.letter(k), () -> y.letter(k));
            case 19 -> same("accepts(" + m + ")", () -> x.accepts(m), () -> y.accepts(m));
            case 20 -> same("isAgreed", x::isAgreed, y::isAgreed);
            case 21 -> same("words(" + set + ", " + length + ")", () -> x.words(set, length), () -> y.words(set, length));
            case 22 -> same("shortest(" + set + ")", () -> x.shortest(set), () -> y.shortest(set));
            case 23 -> same("shortestLetter(" + set + ", " + k % 8 + ")", () -> x.shortestLetter(set, k % 8),
                () -> y.shortestLetter(set, k % 8));
            case 24 -> same("differs(" + m + ", " + other + ")", () -> x.differs(m, other), () -> y.differs(m, other));
            case 25, 26 -> same("log(" + k % 22 + ", " + what % 5 + ")", () -> x.log(k % 22, what % 5),
                () -> y.log(k % 22, what % 5));
            default -> same("account(" + what + ")", () -> x.account(what), () -> y.account(what));
        }
    }

    private void same(String call, Supplier<Object> got, Supplier<Object> due) {
        calls++;
        Check.same("random run " + run + ", call " + calls + ": " + call, outcome(due), outcome(got));
    }

    static String outcome(Supplier<Object> call) {
        try {
            return String.valueOf(call.get());
        } catch (RuntimeException e) {
            return "throws." + e.getClass().getSimpleName();
        }
    }
}
