import java.util.function.Supplier;

/**
 * Everything that an auction holds, as far as its calls bring it out. Looking farther than at what is now needs calls
 * that change it, and no object is asked more than 512 times: so each look takes another auction that is made anew.
 */
final class Whole {
    private Whole() {
    }

    /** What is now, without the undo history, the slots and the buffer; this takes some 330 calls at the most. */
    static String now(LetterAuction x) {
        StringBuilder all = new StringBuilder("sizes ");
        for (int what = 0; what <= 8; what++) {
            all.append(x.size(what)).append(' ');
        }
        int machines = x.size(0);
        int letters = x.size(1);
        for (int machine = 0; machine < machines; machine++) {
            machine(all.append("; machine "), x, machine, letters);
        }
        all.append("; word ");
        int told = x.size(2);
        for (int k = 0; k <= told; k++) {
            all.append(x.letter(k)).append(' ');
        }
        all.append("; log ");
        for (int k = 0, round = x.log(0, 3); round != LetterAuction.NONE; k++, round = x.log(k, 3)) {
            all.append(x.log(k, 0)).append(',').append(x.log(k, 1)).append(',').append(x.log(k, 2)).append(',').append(round).append(' ');
        }
        all.append("; accounts ");
        for (int what = 0; what <= 5; what++) {
            all.append(x.account(what)).append(' ');
        }
        return all.toString();
    }

    private static void machine(StringBuilder all, LetterAuction x, int machine, int letters) {
        for (int what = 0; what <= 6; what++) {
            all.append(x.machine(machine, what)).append(' ');
        }
        int states = x.machine(machine, 3);
        for (int state = 0; state < states; state++) {
            all.append(x.isAccepting(machine, state) ? "accepts," : "").append(x.strength(machine, state));
            for (int letter = 0; letter < letters; letter++) {
                all.append(',').append(x.goes(machine, state, letter));
            }
            all.append(' ');
        }
    }

    /** What is now, what was before each change that can be undone, and what the slots hold. */
    static String standing(Supplier<LetterAuction> made) {
        StringBuilder all = new StringBuilder();
        for (int undone = 0; undone <= 11; undone++) {
            LetterAuction x = made.get();
            for (int n = 0; n < undone; n++) {
                all.append("undo ").append(x.undo()).append(' ');
            }
            all.append(now(x)).append('\n');
        }
        for (int slot = 0; slot <= 1; slot++) {
            LetterAuction x = made.get();
            all.append("slot ").append(slot).append(' ').append(restored(x, slot)).append(now(x)).append('\n');
        }
        return all.toString();
    }

    private static String restored(LetterAuction x, int slot) {
        try {
            return x.restoreSnapshot(slot) + " ";
        } catch (IllegalStateException e) {
            return "is empty ";
        }
    }

    /** What stands, the position of the last parse error, and what the buffer holds. */
    static String of(Supplier<LetterAuction> made) {
        LetterAuction x = made.get();
        StringBuilder all = new StringBuilder(standing(made));
        all.append("position ").append(x.errorPosition()).append('\n');
        int length = x.append(0x20202020, 0x20202020, 0x20202020, 0x20202020, 0x20202020);
        all.append("buffer ").append(length).append(' ').append(x.parse(Math.max(0, length)));
        all.append(' ').append(x.errorPosition()).append(' ').append(now(x));
        return all.toString();
    }
}
