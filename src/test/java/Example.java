/** How to use PastureBanker, from a new object to its output text. README.md shows this program. */
public final class Example {
    public static void main(String[] args) {
        // Herds 0 to 4 are ann, bob, cid, dot and eve; pasture 1 is fen, of which there are 5 units.
        PastureBanker banker = new PastureBanker();
        show("4 of fen for ann, granted", banker.request(0, 1, 4));
        show("2 of fen for bob, granted", banker.request(1, 1, 2));
        show("why dot would not get 1 of fen", banker.whyNotGranted(3, 1, 1));
        show("first herd of the queue", banker.queuedHerd(0));
        show("requests granted as ann gives 2 back", banker.release(0, 1, 2));
        show("first herd of the queue", banker.queuedHerd(0));

        show("coins that eve owes dot", banker.lend(3, 4, 8));
        try {
            banker.lend(4, 3, 1);
        } catch (IllegalStateException refused) {
            show("a cycle of debts is refused, its length", banker.closedCycleLength(3, 4));
        }

        put(banker, "lend ann bob 5;repay bob ann 2;cancel ann;finish bob;");
        show("commands before the first one that throws", banker.runScript());
        show("coins that bob owes ann", banker.debt(1, 0));
        show("changes left when the script is undone", banker.undo());
        show("coins that bob owes ann", banker.debt(1, 0));

        put(banker, "finish zoe;");
        try {
            banker.runScript();
        } catch (IllegalArgumentException refused) {
            show("error code", banker.errorCode());
            show("error position", banker.errorPosition());
        }

        show("waiting herds as the state is saved", banker.save(0));
        banker.finish(0);
        show("allocations without ann's", allocations(banker));
        banker.restore(0);
        show("allocations restored", allocations(banker));

        put(banker, "rights;pasture moor 9;herd kim 4;herd lou 6;");
        show("herds of the new setup", banker.load());
        show("error code", banker.errorCode());
        show("error position", banker.errorPosition());
        put(banker, "lou");
        show("number of herd lou", banker.findHerd());
        show("bytes left", banker.truncate(0));
        show("allocations", allocations(banker));
    }

    /** Puts a text into the empty input buffer: 20 bytes a call, then cut to the text's length. */
    private static void put(PastureBanker banker, String text) {
        for (int from = 0; from < text.length(); from += 20) {
            int[] fours = new int[5];
            for (int index = 0; index < 20; index++) {
                int sign = from + index < text.length() ? text.charAt(from + index) : ' ';
                fours[index / 4] = fours[index / 4] << 8 | sign;
            }
            banker.append(fours[0], fours[1], fours[2], fours[3], fours[4]);
        }
        banker.truncate(text.length());
    }

    private static String allocations(PastureBanker banker) {
        StringBuilder text = new StringBuilder();
        int length = banker.writeAllocations();
        for (int index = 0; index < length; index++) {
            text.append((char) banker.outputByte(index));
        }
        return text.toString();
    }

    private static void show(String what, Object answer) {
        System.out.println(what + ": " + answer);
    }
}
