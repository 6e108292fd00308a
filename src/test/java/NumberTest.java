/**
 * For each argument that the document calls the number of a herd or of a pasture: every number
 * stands for its own herd or pasture, and a change of one touches no other one.
 */
public final class NumberTest {
    private static final int HERDS = 8;
    private static final int PASTURES = 5;
    private static final String[] PASTURE_NAMES = {"a", "bc", "def", "ghij", "klmno"};
    private static final String[] HERD_NAMES = {"p", "qr", "stu", "vwxy", "zabcd", "efghij", "k",
        "lm"};

    private interface One {
        Object run(PastureBanker b, int number);
    }

    private interface Two {
        Object run(PastureBanker b, int first, int second);
    }

    private interface Want {
        Object of(int number);
    }

    private interface WantOfTwo {
        Object of(int first, int second);
    }

    public static void main(String[] args) {
        herdsAndPastures();
        safety();
        queue();
        deadlocks();
        debts();
        units();
        pasturesOfChanges();
        herdsOfChanges();
        coins();
        Check.finish("NumberTest");
    }

    // ---- objects in which no two herds and no two pastures are alike

    /** Capacities are 30 to 34, the claim of herd h on pasture p is h + p + 2. */
    private static PastureBanker claims() {
        StringBuilder setup = new StringBuilder("rights;");
        for (int pasture = 0; pasture < PASTURES; pasture++) {
            setup.append("pasture ").append(PASTURE_NAMES[pasture]).append(' ')
                    .append(30 + pasture).append(';');
        }
        for (int herd = 0; herd < HERDS; herd++) {
            setup.append("herd ").append(HERD_NAMES[herd]);
            for (int pasture = 0; pasture < PASTURES; pasture++) {
                setup.append(' ').append(herd + pasture + 2);
            }
            setup.append(';');
        }
        return Check.loaded(setup.toString());
    }

    private static int held(int herd, int pasture) {
        return (herd + pasture) / 4;
    }

    /** Of pasture p the herds hold 4 + 2p units in all. */
    private static PastureBanker holding() {
        PastureBanker b = claims();
        for (int herd = 0; herd < HERDS; herd++) {
            for (int pasture = 0; pasture < PASTURES; pasture++) {
                if (held(herd, pasture) > 0) {
                    b.request(herd, pasture, held(herd, pasture));
                }
            }
        }
        return b;
    }

    /** Nothing is available; herd h waits for h + 1 units of pasture h, or h - 5 from herd 5 on. */
    private static PastureBanker allWait() {
        PastureBanker b = holding();
        for (int pasture = 0; pasture < PASTURES; pasture++) {
            b.setCapacity(pasture, 4 + 2 * pasture);
        }
        for (int herd = 0; herd < HERDS; herd++) {
            b.request(herd, herd % PASTURES, herd + 1);
        }
        return b;
    }

    private static int owed(int debtor, int creditor) {
        return debtor < creditor ? 10 * debtor + creditor : 0;
    }

    private static PastureBanker owing() {
        PastureBanker b = claims();
        for (int debtor = 0; debtor < HERDS; debtor++) {
            for (int creditor = debtor + 1; creditor < HERDS; creditor++) {
                b.lend(creditor, debtor, owed(debtor, creditor));
            }
        }
        return b;
    }

    // ---- the arguments of a promise, one by one and two together

    private static void one(int promise, String argument, int count, Look.Build build, One call,
            Want want) {
        Sentences.about(promise, argument);
        PastureBanker b = build.make();
        for (int number = 0; number < count; number++) {
            int n = number;
            Check.due("number " + n, want.of(n), () -> call.run(b, n));
        }
    }

    private static void herd(int promise, Look.Build build, One call, Want want) {
        one(promise, "`herd`: number of a herd", HERDS, build, call, want);
    }

    private static void pasture(int promise, Look.Build build, One call, Want want) {
        one(promise, "`pasture`: number of a pasture", PASTURES, build, call, want);
    }

    private static void two(int promise, String[] arguments, int seconds, Look.Build build,
            Two call, WantOfTwo want) {
        one(promise, arguments[0], HERDS, build, (b, first) -> call.run(b, first, 1),
                first -> want.of(first, 1));
        Sentences.about(promise, arguments[1]);
        PastureBanker b = build.make();
        for (int first = 0; first < HERDS; first++) {
            for (int second = 0; second < seconds; second++) {
                int one = first;
                int other = second;
                Check.due(one + " and " + other, want.of(one, other),
                        () -> call.run(b, one, other));
            }
        }
    }

    private static void herdAndPasture(int promise, Look.Build build, Two call, WantOfTwo want) {
        String[] arguments = {"`herd`: number of a herd", "`pasture`: number of a pasture"};
        two(promise, arguments, PASTURES, build, call, want);
    }

    private static void twoHerds(int promise, String first, String second, Look.Build build,
            Two call, WantOfTwo want) {
        String[] arguments = {"`" + first + "`: number of a herd",
            "`" + second + "`: number of a herd"};
        two(promise, arguments, HERDS, build, call, want);
    }

    // ---- questions

    private static void herdsAndPastures() {
        pasture(9, NumberTest::holding, PastureBanker::capacity, p -> 30 + p);
        pasture(10, NumberTest::holding, PastureBanker::available, p -> 26 - p);
        herdAndPasture(11, NumberTest::holding, PastureBanker::maximum, (h, p) -> h + p + 2);
        herdAndPasture(12, NumberTest::holding, PastureBanker::allocation, NumberTest::held);
        herdAndPasture(13, NumberTest::holding, PastureBanker::need,
                (h, p) -> h + p + 2 - held(h, p));
        herd(14, NumberTest::claims, (b, h) -> Look.herdName(b, h), h -> HERD_NAMES[h]);
        pasture(15, NumberTest::claims, (b, p) -> Look.pastureName(b, p), p -> PASTURE_NAMES[p]);
        pasture(43, NumberTest::holding, PastureBanker::utilization,
                p -> (4 + 2 * p) / (30.0f + p));
    }

    private static void safety() {
        for (int wanting = 0; wanting < HERDS; wanting++) {
            int k = wanting;
            Look.Build oneWantsMore = () -> {
                PastureBanker b = holding();
                b.setMaximum(k, k % PASTURES, 50);
                return b;
            };
            herd(19, oneWantsMore, PastureBanker::canFinish, h -> h != k);
        }
        Two why = (b, h, p) -> b.whyNotGranted(h, p, b.need(h, p)) + " "
                + b.whyNotGranted(h, p, b.need(h, p) + 1);
        herdAndPasture(20, NumberTest::holding, why, (h, p) -> "0 2");
        herdAndPasture(21, NumberTest::holding, PastureBanker::largestGrant,
                (h, p) -> h + p + 2 - held(h, p));
        // The last herd has the greatest claim, and nobody holds any units.
        pasture(22, NumberTest::claims, PastureBanker::safeCapacity, p -> 7 + p + 2);
    }

    private static void queue() {
        for (int waiting = 0; waiting < HERDS; waiting++) {
            int k = waiting;
            Look.Build oneWaits = () -> {
                PastureBanker b = holding();
                b.setCapacity(4, 12);
                b.request(k, 4, 1);
                return b;
            };
            herd(26, oneWaits, PastureBanker::isWaiting, h -> h == k);
            herd(27, oneWaits, PastureBanker::requestedPasture, h -> h == k ? 4 : -1);
            herd(28, oneWaits, PastureBanker::requestedAmount, h -> h == k ? 1 : 0);
        }
        herd(26, NumberTest::allWait, PastureBanker::isWaiting, h -> true);
        herd(27, NumberTest::allWait, PastureBanker::requestedPasture, h -> h % PASTURES);
        herd(28, NumberTest::allWait, PastureBanker::requestedAmount, h -> h + 1);
    }

    private static void deadlocks() {
        for (int waiting = 0; waiting < HERDS; waiting++) {
            int k = waiting;
            for (int holder = 0; holder < HERDS; holder++) {
                int o = holder;
                Look.Build oneForOne = () -> {
                    PastureBanker b = Check.loaded(States.setup(1, 1, 8, 1));
                    b.request(o, 0, 1);
                    b.setMaximum(k, 0, 2);
                    b.request(k, 0, 1);
                    return b;
                };
                twoHerds(29, "herd", "other", oneForOne, PastureBanker::waitsFor,
                        (h, other) -> h == k && other == o && h != other);
            }
            Look.Build oneIsStuck = () -> {
                PastureBanker b = Check.loaded(States.setup(2, 1, 8, 1));
                b.setCapacity(0, 0);
                b.request(k, 0, 1);
                return b;
            };
            herd(30, oneIsStuck, PastureBanker::isDeadlocked, h -> h == k);
        }
    }

    private static void debts() {
        twoHerds(32, "debtor", "creditor", NumberTest::owing, PastureBanker::debt,
                NumberTest::owed);
        herd(33, NumberTest::owing, PastureBanker::totalDebt, h -> {
            int sum = 0;
            for (int creditor = 0; creditor < HERDS; creditor++) {
                sum += owed(h, creditor);
            }
            return sum;
        });
        herd(34, NumberTest::owing, PastureBanker::totalClaims, h -> {
            int sum = 0;
            for (int debtor = 0; debtor < HERDS; debtor++) {
                sum += owed(debtor, h);
            }
            return sum;
        });
        twoHerds(35, "debtor", "creditor", States::chain, PastureBanker::closedCycleLength,
                (debtor, creditor) -> debtor < creditor ? -1 : debtor - creditor + 1);
        herd(36, States::chain, PastureBanker::debtDepth, h -> 7 - h);
        herd(38, States::chain, PastureBanker::transitiveClaims, h -> h * (h + 1) / 2);
    }

    // ---- changes

    private static String grid(int rows, int columns, WantOfTwo cell) {
        StringBuilder text = new StringBuilder();
        for (int row = 0; row < rows; row++) {
            for (int column = 0; column < columns; column++) {
                text.append(cell.of(row, column)).append(' ');
            }
        }
        return text.toString();
    }

    private static String allocations(PastureBanker b) {
        return grid(HERDS, PASTURES, b::allocation);
    }

    private static int oneAt(int first, int second, int x, int y) {
        return first == x && second == y ? 1 : 0;
    }

    private static void units() {
        herdAndPasture(46, PastureBanker::new, (ignored, h, p) -> {
            PastureBanker b = holding();
            return b.request(h, p, 1) + " " + allocations(b);
        }, (h, p) -> "true " + grid(HERDS, PASTURES, (x, y) -> held(x, y) + oneAt(h, p, x, y)));
        herdAndPasture(47, PastureBanker::new, (ignored, h, p) -> {
            PastureBanker b = holding();
            b.request(h, p, 2);
            return b.release(h, p, 1) + " " + allocations(b);
        }, (h, p) -> "0 " + grid(HERDS, PASTURES, (x, y) -> held(x, y) + oneAt(h, p, x, y)));
        herdAndPasture(51, PastureBanker::new, (ignored, h, p) -> {
            PastureBanker b = holding();
            return b.setMaximum(h, p, h + p + 1) + " " + grid(HERDS, PASTURES, b::maximum);
        }, (h, p) -> "0 " + grid(HERDS, PASTURES, (x, y) -> x + y + 2 - oneAt(h, p, x, y)));
    }

    private static void pasturesOfChanges() {
        pasture(46, PastureBanker::new, (ignored, p) -> {
            PastureBanker b = holding();
            b.setCapacity(p, 4 + 2 * p);
            return b.request(6, p, 3) + " " + b.requestedPasture(6) + " " + Look.queue(b);
        }, p -> "false " + p + " 6 ");
        pasture(50, PastureBanker::new, (ignored, p) -> {
            PastureBanker b = holding();
            return b.setCapacity(p, 50) + " " + grid(1, PASTURES, (row, y) -> b.capacity(y));
        }, p -> "0 " + grid(1, PASTURES, (row, y) -> y == p ? 50 : 30 + y));
    }

    private static void herdsOfChanges() {
        herd(48, PastureBanker::new, (ignored, h) -> {
            PastureBanker b = holding();
            return b.finish(h) + " " + allocations(b);
        }, h -> "0 " + grid(HERDS, PASTURES, (x, y) -> x == h ? 0 : held(x, y)));
        herd(49, PastureBanker::new, (ignored, h) -> {
            PastureBanker b = allWait();
            return b.cancel(h) + " " + Look.queue(b) + grid(1, HERDS, (row, x) -> b.isWaiting(x));
        }, h -> "0 " + "0 1 2 3 4 5 6 7 ".replace(h + " ", "")
                + grid(1, HERDS, (row, x) -> x != h));
    }

    private static void coins() {
        Two lend = (ignored, creditor, debtor) -> {
            PastureBanker b = claims();
            b.lend(creditor, debtor, 7);
            return grid(HERDS, HERDS, b::debt);
        };
        WantOfTwo lent = (creditor, debtor) -> creditor == debtor ? IllegalStateException.class
                : grid(HERDS, HERDS, (x, y) -> 7 * oneAt(debtor, creditor, x, y));
        twoHerds(52, "creditor", "debtor", PastureBanker::new, lend, lent);
        Two repay = (ignored, debtor, creditor) -> {
            PastureBanker b = owing();
            b.repay(debtor, creditor, 1);
            return grid(HERDS, HERDS, b::debt);
        };
        WantOfTwo repaid = (debtor, creditor) -> debtor >= creditor ? IllegalStateException.class
                : grid(HERDS, HERDS, (x, y) -> owed(x, y) - oneAt(debtor, creditor, x, y));
        twoHerds(53, "debtor", "creditor", PastureBanker::new, repay, repaid);
    }
}
