import java.util.function.IntConsumer;

/** What the tests share: comparing an answer with the one that is due, and putting a text into the buffer. */
final class Check {
    static int made = 0;
    static int wrong = 0;

    private Check() {
    }

    static void same(String call, long due, long got) {
        made++;
        if (got != due) {
            report(call + " answered " + got + ", due is " + due);
        }
    }

    static void same(String call, String due, String got) {
        made++;
        if (!got.equals(due)) {
            // Of long answers only what stands round the first difference.
            int from = Math.max(0, firstDifference(due, got) - 60);
            report(call + " answered .." + part(got, from) + ".., due is .." + part(due, from) + "..");
        }
    }

    private static int firstDifference(String one, String other) {
        int at = 0;
        while (at < one.length() && at < other.length() && one.charAt(at) == other.charAt(at)) {
            at++;
        }
        return at;
    }

    private static String part(String text, int from) {
        return text.substring(Math.min(from, text.length()), Math.min(from + 120, text.length()));
    }

    static void yes(String call, boolean got) {
        same(call, 1, got ? 1 : 0);
    }

    static void no(String call, boolean got) {
        same(call, 0, got ? 1 : 0);
    }

    /** The exception must be of just this class. */
    static void raises(String call, Class<? extends RuntimeException> due, Runnable runnable) {
        same(call, due.getSimpleName(), outcome(runnable));
    }

    static void raisesIndex(String call, Runnable runnable) {
        raises(call, IndexOutOfBoundsException.class, runnable);
    }

    static void raisesArgument(String call, Runnable runnable) {
        raises(call, IllegalArgumentException.class, runnable);
    }

    static void raisesState(String call, Runnable runnable) {
        raises(call, IllegalStateException.class, runnable);
    }

    /** The call must be refused just outside of the range, and with the least and the greatest numbers that there are. */
    static void outside(String call, Class<? extends RuntimeException> due, int least, int most, IntConsumer called) {
        for (int argument : new int[] {least - 1, most + 1, Integer.MIN_VALUE, Integer.MAX_VALUE}) {
            raises(call + " with " + argument, due, () -> called.accept(argument));
        }
    }

    static void outsideIndex(String call, int least, int most, IntConsumer called) {
        outside(call, IndexOutOfBoundsException.class, least, most, called);
    }

    static void outsideArgument(String call, int least, int most, IntConsumer called) {
        outside(call, IllegalArgumentException.class, least, most, called);
    }

    private static String outcome(Runnable runnable) {
        try {
            runnable.run();
            return "nothing";
        } catch (RuntimeException e) {
            return e.getClass().getSimpleName();
        }
    }

    private static void report(String text) {
        wrong++;
        if (wrong <= 40) {
            System.out.println(Sentences.heading() + text);
        }
    }

    /** Appends a text, filled up with spaces to a multiple of 20 bytes; signs stand for bytes. */
    static void feed(LetterAuction x, String text) {
        for (int at = 0; at < text.length(); at += 20) {
            x.append(four(text, at), four(text, at + 4), four(text, at + 8), four(text, at + 12), four(text, at + 16));
        }
    }

    private static int four(String text, int at) {
        int four = 0;
        for (int i = at; i < at + 4; i++) {
            four = four << 8 | (i < text.length() ? text.charAt(i) & 255 : ' ');
        }
        return four;
    }

    static int parse(LetterAuction x, String text) {
        feed(x, text);
        return x.parse(text.length());
    }

    static LetterAuction of(String text) {
        LetterAuction x = new LetterAuction();
        same("parse of " + text, 0, parse(x, text));
        return x;
    }
}
