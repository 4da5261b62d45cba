/** What the tests share: comparing an answer with the one that is due, and putting a text into the buffer. */
final class Check {
    static int made = 0;
    static int wrong = 0;

    private Check() {
    }

    static void same(String call, long due, long got) {
        made++;
        if (got != due) {
            report(call + " answered " + got + ", due is " + due);
        }
    }

    static void same(String call, String due, String got) {
        made++;
        if (!got.equals(due)) {
            report(call + " answered " + got + ", due is " + due);
        }
    }

    static void yes(String call, boolean got) {
        same(call, 1, got ? 1 : 0);
    }

    static void no(String call, boolean got) {
        same(call, 0, got ? 1 : 0);
    }

    /** The exception must be of just this class. */
    static void raises(String call, Class<? extends RuntimeException> due, Runnable runnable) {
        same(call, due.getSimpleName(), outcome(runnable));
    }

    static void raisesIndex(String call, Runnable runnable) {
        raises(call, IndexOutOfBoundsException.class, runnable);
    }

    static void raisesArgument(String call, Runnable runnable) {
        raises(call, IllegalArgumentException.class, runnable);
    }

    static void raisesState(String call, Runnable runnable) {
        raises(call, IllegalStateException.class, runnable);
    }

    private static String outcome(Runnable runnable) {
        try {
            runnable.run();
            return "nothing";
        } catch (RuntimeException e) {
            return e.getClass().getSimpleName();
        }
    }

    private static void report(String text) {
        wrong++;
        if (wrong <= 40) {
            System.out.println(text);
        }
    }

    /** Appends a text, filled up with spaces to a multiple of 20 bytes; signs stand for bytes. */
    static void feed(LetterAuction x, String text) {
        for (int at = 0; at < text.length(); at += 20) {
            x.append(four(text, at), four(text, at + 4), four(text, at + 8), four(text, at + 12), four(text, at + 16));
        }
    }

    private static int four(String text, int at) {
        int four = 0;
        for (int i = at; i < at + 4; i++) {
            four = four << 8 | (i < text.length() ? text.charAt(i) & 255 : ' ');
        }
        return four;
    }

    static int parse(LetterAuction x, String text) {
        feed(x, text);
        return x.parse(text.length());
    }

    static LetterAuction of(String text) {
        LetterAuction x = new LetterAuction();
        same("parse of " + text, 0, parse(x, text));
        return x;
    }

    /** All that an auction answers about itself without an argument that is free. */
    static String picture(LetterAuction x) {
        StringBuilder all = new StringBuilder();
        for (int what = 0; what <= 8; what++) {
            all.append(x.size(what)).append(' ');
        }
        for (int machine = 0; machine < x.size(0); machine++) {
            for (int what = 0; what <= 6; what++) {
                all.append(x.machine(machine, what)).append(' ');
            }
            for (int state = 0; state < x.machine(machine, 3); state++) {
                all.append(x.strength(machine, state)).append(' ');
            }
        }
        for (int k = 0; k <= 60; k++) {
            all.append(x.letter(k)).append(' ');
        }
        for (int k = 0; k <= 20; k++) {
            for (int part = 0; part < 4; part++) {
                all.append(x.log(k, part)).append(' ');
            }
        }
        for (int what = 0; what <= 5; what++) {
            all.append(x.account(what)).append(' ');
        }
        return all.toString();
    }
}
