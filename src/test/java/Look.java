import java.util.function.Function;

/**
 * What an object shows, as one text to compare. Looking changes objects and takes many calls, of
 * which an object is good for 512, so each part is looked at on an object of its own, made alike.
 */
final class Look {
    interface Build {
        PastureBanker make();
    }

    private static final int MOST_CALLS_BACK = 7;

    private Look() {
    }

    /** All that undo, save and restore bring back. */
    static String state(PastureBanker b) {
        StringBuilder text = new StringBuilder("counters ").append(counters(b)).append("; queue ")
                .append(queue(b));
        int pastures = b.pastureCount();
        int herds = b.herdCount();
        for (int pasture = 0; pasture < pastures; pasture++) {
            text.append("; ").append(pastureName(b, pasture)).append(' ')
                    .append(b.capacity(pasture));
        }
        for (int herd = 0; herd < herds; herd++) {
            text.append("; ").append(herdName(b, herd)).append(" wants ")
                    .append(b.requestedAmount(herd)).append(" of ")
                    .append(b.requestedPasture(herd)).append(", holds");
            for (int pasture = 0; pasture < pastures; pasture++) {
                text.append(' ').append(b.allocation(herd, pasture)).append('/')
                        .append(b.maximum(herd, pasture));
            }
            text.append(", owes");
            for (int creditor = 0; creditor < herds; creditor++) {
                text.append(' ').append(b.debt(herd, creditor));
            }
        }
        return text.toString();
    }

    /** Requests granted at once, granted from the queue, queued and withdrawn. */
    static String counters(PastureBanker b) {
        return b.immediateGrants() + " " + b.queuedGrants() + " " + b.queuedRequests() + " "
                + b.withdrawnRequests();
    }

    static String queue(PastureBanker b) {
        return list(b.queueLength(), b::queuedHerd);
    }

    static String safeOrder(PastureBanker b) {
        return list(b.herdCount(), b::safeOrder);
    }

    static String settlement(PastureBanker b) {
        return list(b.herdCount(), b::settlementOrder);
    }

    private static String list(int length, Function<Integer, Integer> positions) {
        StringBuilder list = new StringBuilder();
        for (int position = 0; position < length; position++) {
            list.append(positions.apply(position)).append(' ');
        }
        return list.toString();
    }

    static String herdName(PastureBanker b, int herd) {
        return name(index -> b.herdNameByte(herd, index));
    }

    static String pastureName(PastureBanker b, int pasture) {
        return name(index -> b.pastureNameByte(pasture, index));
    }

    private static String name(Function<Integer, Integer> letters) {
        StringBuilder name = new StringBuilder();
        try {
            for (int index = 0; index <= 6; index++) {
                name.append((char) (int) letters.apply(index));
            }
        } catch (IndexOutOfBoundsException end) {
            return name.toString();
        }
        return name + "..";
    }

    /** The state, those that undo and restore lead to, and the output text. */
    static String behindInput(Build build) {
        StringBuilder text = new StringBuilder("\n  now: ").append(state(build.make()));
        for (int back = 1; back <= MOST_CALLS_BACK; back++) {
            text.append("\n  undo ").append(back).append(": ").append(undone(build.make(), back));
        }
        for (int slot = 0; slot <= 1; slot++) {
            int from = slot;
            PastureBanker b = build.make();
            text.append("\n  slot ").append(slot).append(": ")
                    .append(outcome(() -> b.restore(from))).append(", ").append(state(b));
        }
        return text.append("\n  output: ").append(output(build.make())).toString();
    }

    private static String undone(PastureBanker b, int times) {
        StringBuilder text = new StringBuilder();
        for (int time = 0; time < times; time++) {
            text.append(outcome(b::undo)).append(' ');
        }
        return text.append(", ").append(state(b)).toString();
    }

    /** The output text as it was written last. */
    static String output(PastureBanker b) {
        StringBuilder text = new StringBuilder();
        try {
            for (int index = 0; index < 200; index++) {
                text.append((char) b.outputByte(index));
            }
        } catch (IndexOutOfBoundsException end) {
            return text.toString();
        }
        return text + "..";
    }

    /** The error code and position, the buffer's length, and what its text is good for. */
    static String input(Build build) {
        StringBuilder text = new StringBuilder(Check.codes(build.make())).append(", ")
                .append(length(build.make())).append(" bytes");
        PastureBanker found = build.make();
        text.append("\n  findHerd: ").append(outcome(found::findHerd));
        PastureBanker run = build.make();
        text.append("\n  runScript: ").append(outcome(run::runScript)).append(", ")
                .append(Check.codes(run)).append(", ").append(state(run));
        PastureBanker loaded = build.make();
        text.append("\n  load: ").append(outcome(loaded::load)).append(", ")
                .append(Check.codes(loaded)).append(", ").append(state(loaded));
        return text.toString();
    }

    /** The length of the buffer, told by the new lengths that are refused. */
    static int length(PastureBanker b) {
        try {
            return b.append(0, 0, 0, 0, 0) - 20;
        } catch (IllegalStateException full) {
            int length = 600;
            while (length > 580 && !reaches(b, length)) {
                length--;
            }
            return length;
        }
    }

    private static boolean reaches(PastureBanker b, int length) {
        try {
            return b.truncate(length) == length;
        } catch (IllegalArgumentException longer) {
            return false;
        }
    }

    static String everything(Build build) {
        return behindInput(build) + "\n  input: " + input(build);
    }

    private static String outcome(Check.Call call) {
        try {
            return String.valueOf(call.run());
        } catch (RuntimeException thrown) {
            return thrown.getClass().getSimpleName();
        }
    }
}
