/** Objects in which much, all or next to nothing is in use. */
final class States {
    static final String FIRST_SETUP = "rights;pasture hill 10;pasture fen 5;pasture ridge 7;"
            + "herd ann 7 5 3;herd bob 3 2 2;herd cid 9 0 2;herd dot 2 2 2;herd eve 4 3 3;";
    static final String FULL_SETUP = setup(5, 8, 8, 1);

    private States() {
    }

    /** Pastures a, b .. and herds a, b .., all of the same capacity and with the same claims. */
    static String setup(int pastures, int capacity, int herds, int claim) {
        StringBuilder text = new StringBuilder("rights;");
        for (int pasture = 0; pasture < pastures; pasture++) {
            text.append("pasture ").append((char) ('a' + pasture)).append(' ').append(capacity)
                    .append(';');
        }
        for (int herd = 0; herd < herds; herd++) {
            text.append("herd ").append((char) ('a' + herd));
            text.append((" " + claim).repeat(pastures)).append(';');
        }
        return text.toString();
    }

    /**
     * Of the first setup: available 3, 3 and 2; ann and eve wait for 4 of hill. Ann owes bob 10,
     * bob owes cid 20, dot owes eve 999. Six changes, slot 1 saved, an output text, an error of
     * code 3 at 7, and a script of two commands in the buffer.
     */
    static PastureBanker busy() {
        PastureBanker b = new PastureBanker();
        Check.put(b, "request ann fen 1;request bob hill 2;request cid hill 3;request cid ridge 2;"
                + "request dot hill 2;request dot fen 1;request dot ridge 1;request eve ridge 2;");
        b.runScript();
        Check.script(b, "finish zoe;");
        b.lend(1, 0, 10);
        b.lend(2, 1, 20);
        b.save(1);
        b.request(0, 0, 4);
        b.writeAllocations();
        b.request(4, 0, 4);
        b.lend(4, 3, 999);
        Check.put(b, "lend bob dot 3;finish bob;");
        return b;
    }

    /**
     * Five pastures a to e and eight herds a to h: each holds one unit of each pasture and waits
     * for 8 of pasture e. Each herd owes the next one. Both slots saved, 600 bytes in the buffer.
     */
    static PastureBanker full() {
        PastureBanker b = Check.loaded(FULL_SETUP);
        for (int herd = 0; herd < 8; herd++) {
            for (int pasture = 0; pasture < 5; pasture++) {
                b.request(herd, pasture, 1);
            }
        }
        b.save(0);
        for (int herd = 0; herd < 8; herd++) {
            b.setMaximum(herd, 4, 9);
            b.request(herd, 4, 8);
        }
        b.writeAllocations();
        b.save(1);
        for (int herd = 0; herd < 7; herd++) {
            b.lend(herd + 1, herd, herd + 1);
        }
        Check.put(b, " ".repeat(591) + "finish h;");
        return b;
    }

    /** One pasture without units, one herd without a claim, and the herd's name in the buffer. */
    static PastureBanker tiny() {
        PastureBanker b = Check.loaded("rights;pasture p 0;herd h 0;");
        Check.put(b, "h");
        return b;
    }

    /** One pasture, of which x holds 49 units of its claim of 50. */
    static PastureBanker rich() {
        PastureBanker b = Check.loaded("rights;pasture a 50;herd x 50;herd y 0;");
        b.request(0, 0, 49);
        b.lend(0, 1, 998);
        return b;
    }

    /** Herd 0 owes herd 1, herd 1 owes herd 2, and so on to herd 7: 1, 2 .. 7 coins. */
    static PastureBanker chain() {
        PastureBanker b = Check.loaded(setup(1, 0, 8, 0));
        for (int herd = 0; herd < 7; herd++) {
            b.lend(herd + 1, herd, herd + 1);
        }
        return b;
    }
}
