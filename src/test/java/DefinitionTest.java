import java.util.Random;

/** What the document defines, worked out from its words for many states, as the class answers. */
public final class DefinitionTest {
    private static final int RUNS = 150;
    private static final int PASTURES = 3;
    private static final int HERDS = 5;
    private static final int ALL_HERDS = (1 << HERDS) - 1;
    private static final int MOST_CAPACITY = 400;
    private static final int DEBTORS = 8;
    private static final String STEPS = "each step appends the lowest-numbered herd that is not in "
            + "the order yet and ";

    public static void main(String[] args) {
        safeStates();
        queue();
        deadlocks();
        waitsFor();
        why();
        largestGrant();
        safeCapacity();
        bestToFinish();
        cycles();
        chains();
        settlement();
        transitiveClaims();
        Check.finish("DefinitionTest");
    }

    private static void due(int run, String what, Object want, Check.Call call) {
        Check.due("state " + run + ", " + what, want, call);
    }

    // ---- states as some changes leave them; a run always leads to the same state

    private static PastureBanker state(int run) {
        return state(run, 25);
    }

    private static PastureBanker state(int run, int changes) {
        Random random = new Random(run);
        StringBuilder setup = new StringBuilder("rights;");
        int[] capacities = new int[PASTURES];
        for (int pasture = 0; pasture < PASTURES; pasture++) {
            capacities[pasture] = 1 + random.nextInt(8);
            setup.append("pasture ").append((char) ('a' + pasture)).append(' ')
                    .append(capacities[pasture]).append(';');
        }
        for (int herd = 0; herd < HERDS; herd++) {
            setup.append("herd ").append((char) ('a' + herd));
            for (int capacity : capacities) {
                setup.append(' ').append(random.nextInt(capacity + 1));
            }
            setup.append(';');
        }
        PastureBanker b = Check.loaded(setup.toString());
        for (int change = 0; change < changes; change++) {
            change(b, random);
        }
        return b;
    }

    /** A change at random, most often a request; refused ones leave the state as it is. */
    private static void change(PastureBanker b, Random random) {
        int herd = random.nextInt(HERDS);
        int pasture = random.nextInt(PASTURES);
        int units = 1 + random.nextInt(3);
        try {
            switch (random.nextInt(16)) {
                case 0:
                    b.release(herd, pasture, units);
                    break;
                case 1:
                    b.setMaximum(herd, pasture, random.nextInt(7));
                    break;
                case 2:
                    b.setCapacity(pasture, random.nextInt(9));
                    break;
                case 3:
                    b.finish(herd);
                    break;
                case 4:
                    b.cancel(herd);
                    break;
                default:
                    b.request(herd, pasture, units);
                    break;
            }
        } catch (IllegalStateException refused) {
            return;
        }
    }

    /** The numbers of a state, as it tells them. */
    private static final class Units {
        final int[] free = new int[PASTURES];
        final int[] held = new int[PASTURES];
        final int[][] holds = new int[HERDS][PASTURES];
        final int[][] needs = new int[HERDS][PASTURES];
        final int[] wants = new int[HERDS];
        final int[] wantsOf = new int[HERDS];

        Units(PastureBanker b) {
            for (int pasture = 0; pasture < PASTURES; pasture++) {
                free[pasture] = b.capacity(pasture);
                for (int herd = 0; herd < HERDS; herd++) {
                    holds[herd][pasture] = b.allocation(herd, pasture);
                    needs[herd][pasture] = b.maximum(herd, pasture) - holds[herd][pasture];
                    held[pasture] += holds[herd][pasture];
                }
                free[pasture] -= held[pasture];
            }
            for (int herd = 0; herd < HERDS; herd++) {
                wants[herd] = b.requestedAmount(herd);
                wantsOf[herd] = b.requestedPasture(herd);
            }
        }

        boolean canFinish(int herd) {
            for (int pasture = 0; pasture < PASTURES; pasture++) {
                if (needs[herd][pasture] > free[pasture]) {
                    return false;
                }
            }
            return true;
        }

        void giveBack(int herd, int times) {
            for (int pasture = 0; pasture < PASTURES; pasture++) {
                free[pasture] += times * holds[herd][pasture];
            }
        }

        /** Whether the herds that are not done yet can be put in any order behind the others. */
        boolean hasOrder(int done) {
            for (int herd = 0; herd < HERDS; herd++) {
                if ((done >> herd & 1) == 0 && canFinish(herd)) {
                    giveBack(herd, 1);
                    boolean found = hasOrder(done | 1 << herd);
                    giveBack(herd, -1);
                    if (found) {
                        return true;
                    }
                }
            }
            return done == ALL_HERDS;
        }

        boolean canBeGranted(int herd, int pasture, int amount) {
            if (amount > free[pasture]) {
                return false;
            }
            move(herd, pasture, amount);
            boolean safe = hasOrder(0);
            move(herd, pasture, -amount);
            return safe;
        }

        private void move(int herd, int pasture, int amount) {
            free[pasture] -= amount;
            holds[herd][pasture] += amount;
            needs[herd][pasture] -= amount;
        }
    }

    // ---- Terms, Promises 17 to 23, 30 and 31

    private static void safeStates() {
        Sentences.aboutTerms("A state is safe if the herds can be ordered so that each herd can "
                + "finish with the available units plus the allocations of all herds in front of "
                + "it in this order.");
        for (int run = 0; run < RUNS; run++) {
            PastureBanker b = state(run);
            boolean want = new Units(b).hasOrder(0);
            due(run, "is safe", want, b::isSafe);
        }
        Sentences.aboutTerms("The safe order of a safe state is built step by step: " + STEPS
                + "can finish.");
        for (int run = 0; run < RUNS; run++) {
            PastureBanker b = state(run);
            String want = safeOrder(new Units(b));
            due(run, "safe order", want, () -> Look.safeOrder(b));
        }
    }

    private static String safeOrder(Units units) {
        StringBuilder order = new StringBuilder();
        for (int done = 0; done != ALL_HERDS;) {
            int herd = 0;
            while (herd < HERDS && ((done >> herd & 1) != 0 || !units.canFinish(herd))) {
                herd++;
            }
            if (herd == HERDS) {
                return "-1 ".repeat(HERDS);
            }
            units.giveBack(herd, 1);
            done |= 1 << herd;
            order.append(herd).append(' ');
        }
        return order.toString();
    }

    private static void queue() {
        Sentences.aboutTerms("The queue is processed after some operations, as their descriptions "
                + "say: the pending requests are visited from the front to the back, and each one "
                + "that can be granted is granted and removed from the queue. This is repeated "
                + "from the front until a visit of the whole queue grants nothing.");
        for (int run = 0; run < RUNS; run++) {
            for (int changes = 10; changes <= 25; changes += 5) {
                Units units = new Units(state(run, changes));
                for (int herd = 0; herd < HERDS; herd++) {
                    boolean left = units.wants[herd] > 0
                            && units.canBeGranted(herd, units.wantsOf[herd], units.wants[herd]);
                    due(run, "herd " + herd + " waits though it need not", false, () -> left);
                }
            }
        }
    }

    private static void deadlocks() {
        Sentences.aboutTerms("The deadlock detection starts with the available units as free "
                + "units. It repeatedly picks a herd that has not been picked yet and is either "
                + "not waiting, or waiting for an amount that is at most the free units of its "
                + "pasture; the allocations of a picked herd are added to the free units. A herd "
                + "is deadlocked if it can never be picked in this way. (The order of the picks "
                        + "does not matter.)");
        for (int run = 0; run < RUNS; run++) {
            PastureBanker b = state(run);
            for (int order = 0; order < 4; order++) {
                int stuck = neverPicked(new Units(b), new Random(order));
                for (int herd = 0; herd < HERDS; herd++) {
                    int h = herd;
                    due(run, "herd " + h, (stuck >> h & 1) != 0, () -> b.isDeadlocked(h));
                }
                due(run, "count", Integer.bitCount(stuck), b::deadlockedCount);
            }
        }
    }

    /** Picks at random until no herd could be picked for long enough to be sure. */
    private static int neverPicked(Units units, Random random) {
        int left = ALL_HERDS;
        for (int tries = 0; tries < 200; tries++) {
            int herd = random.nextInt(HERDS);
            boolean goesOn = units.wants[herd] == 0
                    || units.wants[herd] <= units.free[units.wantsOf[herd]];
            if ((left >> herd & 1) != 0 && goesOn) {
                left &= ~(1 << herd);
                units.giveBack(herd, 1);
                tries = 0;
            }
        }
        return left;
    }

    private static void waitsFor() {
        Sentences.aboutTerms("A waiting herd waits for another herd if the amount of its request "
                + "exceeds the available units of the requested pasture, and the other herd holds at "
                + "least one unit of this pasture.");
        for (int run = 0; run < RUNS; run++) {
            PastureBanker b = state(run);
            Units units = new Units(b);
            for (int herd = 0; herd < HERDS; herd++) {
                for (int other = 0; other < HERDS; other++) {
                    int h = herd;
                    int o = other;
                    int pasture = units.wantsOf[h];
                    boolean want = h != o && units.wants[h] > 0
                            && units.wants[h] > units.free[pasture] && units.holds[o][pasture] > 0;
                    due(run, h + " for " + o, want, () -> b.waitsFor(h, o));
                }
            }
        }
    }

    private static void why() {
        Sentences.about(20, "Tells why a request could not be granted at once.");
        for (int run = 0; run < RUNS / 3; run++) {
            for (int herd = 0; herd < HERDS; herd++) {
                for (int pasture = 0; pasture < PASTURES; pasture++) {
                    for (int amount : new int[] {1, 2, 4}) {
                        why(run, herd, pasture, amount);
                    }
                }
            }
        }
    }

    private static void why(int run, int herd, int pasture, int amount) {
        PastureBanker b = state(run);
        Units units = new Units(b);
        boolean waits = units.wants[herd] > 0;
        boolean isTooMuch = amount > units.needs[herd][pasture];
        boolean isFree = amount <= units.free[pasture];
        boolean can = units.canBeGranted(herd, pasture, amount);
        int want = waits ? 1 : isTooMuch ? 2 : !isFree ? 3 : !can ? 4 : 0;
        String what = amount + " of " + pasture + " for " + herd;
        due(run, "why not " + what, want, () -> b.whyNotGranted(herd, pasture, amount));
        Object granted = want == 1 || want == 2 ? IllegalStateException.class : want == 0;
        due(run, "request " + what, granted, () -> b.request(herd, pasture, amount));
    }

    private static void largestGrant() {
        Sentences.about(21, "Returns the largest amount that would be granted to a herd at once.");
        for (int run = 0; run < RUNS; run++) {
            PastureBanker b = state(run);
            Units units = new Units(b);
            for (int herd = 0; herd < HERDS; herd++) {
                for (int pasture = 0; pasture < PASTURES; pasture++) {
                    int want = units.wants[herd] > 0 ? 0 : units.needs[herd][pasture];
                    while (want > 0 && !units.canBeGranted(herd, pasture, want)) {
                        want--;
                    }
                    int h = herd;
                    int p = pasture;
                    due(run, "largest grant", want, () -> b.largestGrant(h, p));
                }
            }
        }
    }

    private static void safeCapacity() {
        Sentences.about(22, "Returns the least capacity of a pasture with which the current state "
                + "would be safe, if the capacities of all other pastures stayed the same.");
        for (int run = 0; run < RUNS; run++) {
            PastureBanker b = state(run);
            for (int pasture = 0; pasture < PASTURES; pasture++) {
                int p = pasture;
                int want = leastSafeCapacity(new Units(b), p);
                due(run, "safe capacity of " + p, want, () -> b.safeCapacity(p));
            }
        }
    }

    private static int leastSafeCapacity(Units units, int pasture) {
        int held = units.held[pasture];
        for (int capacity = held; capacity <= MOST_CAPACITY; capacity++) {
            units.free[pasture] = capacity - held;
            if (units.hasOrder(0)) {
                return capacity;
            }
        }
        return PastureBanker.NONE;
    }

    private static void bestToFinish() {
        Sentences.about(23, "Returns the herd whose finishing would let the most waiting herds "
                + "continue. The comparison counts the pending requests that would be granted by "
                + "processing the queue if finish() was called for the herd now (its own pending "
                + "request does not count).");
        for (int run = 0; run < RUNS; run++) {
            int best = 0;
            int most = 0;
            for (int herd = 0; herd < HERDS; herd++) {
                PastureBanker b = state(run);
                int before = b.queueLength() - (b.isWaiting(herd) ? 1 : 0);
                b.finish(herd);
                int granted = before - b.queueLength();
                if (granted > most) {
                    most = granted;
                    best = herd;
                }
            }
            int want = best;
            int state = run;
            due(run, "best to finish", want, () -> state(state).bestToFinish());
        }
    }

    // ---- debts

    /** Debts as many loans at random leave them, and a table of them. */
    private static final class Loans {
        final PastureBanker banker = Check.loaded(States.setup(1, 0, DEBTORS, 0));
        final int[][] coins = new int[DEBTORS][DEBTORS];

        Loans(int run) {
            Random random = new Random(run);
            for (int loan = 0; loan < 5 + run % 30; loan++) {
                int debtor = random.nextInt(DEBTORS);
                int creditor = random.nextInt(DEBTORS);
                int amount = 1 + random.nextInt(400);
                boolean isRefused = shortest(creditor, debtor) >= 0
                        || coins[debtor][creditor] + amount > 999;
                if (!isRefused) {
                    coins[debtor][creditor] += amount;
                }
                Object want = isRefused ? IllegalStateException.class : coins[debtor][creditor];
                due(run, "lend " + amount + " to " + debtor + " by " + creditor, want,
                        () -> banker.lend(creditor, debtor, amount));
            }
        }

        /** The number of debts in the shortest chain from one herd to another, -1 if none is. */
        int shortest(int from, int to) {
            return shortest(from, to, DEBTORS);
        }

        private int shortest(int from, int to, int most) {
            if (from == to) {
                return 0;
            }
            int best = -1;
            for (int next = 0; next < DEBTORS && most > 0; next++) {
                int rest = coins[from][next] > 0 ? shortest(next, to, most - 1) : -1;
                if (rest >= 0 && (best < 0 || rest + 1 < best)) {
                    best = rest + 1;
                }
            }
            return best;
        }

        int longest(int from) {
            int best = 0;
            for (int next = 0; next < DEBTORS; next++) {
                if (coins[from][next] > 0) {
                    best = Math.max(best, 1 + longest(next));
                }
            }
            return best;
        }

        boolean isInCycle(int herd) {
            for (int next = 0; next < DEBTORS; next++) {
                if (coins[herd][next] > 0 && shortest(next, herd) >= 0) {
                    return true;
                }
            }
            return false;
        }

        boolean hasDebtorOutside(int herd, int settled) {
            for (int debtor = 0; debtor < DEBTORS; debtor++) {
                if (coins[debtor][herd] > 0 && (settled >> debtor & 1) == 0) {
                    return true;
                }
            }
            return false;
        }
    }

    private static void cycles() {
        Sentences.aboutTerms("Debts never form a cycle: a sequence of herds in which each herd "
                + "owes a debt to the next one and the last herd owes a debt to the first one does "
                + "not exist.");
        for (int run = 0; run < RUNS; run++) {
            Loans loans = new Loans(run);
            for (int herd = 0; herd < DEBTORS; herd++) {
                int h = herd;
                due(run, "a cycle with " + h, false, () -> loans.isInCycle(h));
                for (int creditor = 0; creditor < DEBTORS; creditor++) {
                    int c = creditor;
                    due(run, "debt", loans.coins[h][c], () -> loans.banker.debt(h, c));
                }
            }
        }
    }

    private static void chains() {
        Sentences.about(35, "Returns the length of the shortest cycle that a new debt would "
                + "close.");
        for (int run = 0; run < RUNS; run++) {
            Loans loans = new Loans(run);
            for (int debtor = 0; debtor < DEBTORS; debtor++) {
                for (int creditor = 0; creditor < DEBTORS; creditor++) {
                    int d = debtor;
                    int c = creditor;
                    int back = loans.shortest(c, d);
                    due(run, d + " to " + c, back < 0 ? -1 : back + 1,
                            () -> loans.banker.closedCycleLength(d, c));
                }
            }
        }
        Sentences.aboutTerms("The debt depth of a herd is the greatest number of debts along a "
                + "chain that starts with a debt of this herd and in which each creditor is the "
                + "debtor of the next debt; it is 0 for a herd without debts.");
        for (int run = 0; run < RUNS; run++) {
            Loans loans = new Loans(run);
            for (int herd = 0; herd < DEBTORS; herd++) {
                int h = herd;
                due(run, "depth of " + h, loans.longest(h), () -> loans.banker.debtDepth(h));
            }
        }
    }

    private static void settlement() {
        Sentences.about(37, "Returns a herd of the settlement order. The settlement order lists "
                + "all herds so that every herd comes behind all of its debtors. It is built step "
                + "by step: " + STEPS + "whose debtors all are in the order.");
        for (int run = 0; run < RUNS; run++) {
            Loans loans = new Loans(run);
            int settled = 0;
            for (int position = 0; position < DEBTORS; position++) {
                int herd = 0;
                while ((settled >> herd & 1) != 0 || loans.hasDebtorOutside(herd, settled)) {
                    herd++;
                }
                settled |= 1 << herd;
                int place = position;
                due(run, "position " + place, herd, () -> loans.banker.settlementOrder(place));
            }
        }
    }

    private static void transitiveClaims() {
        Sentences.about(38, "Returns how much a herd could pay back if all debts to it were paid "
                + "first, transitively.");
        for (int run = 0; run < RUNS; run++) {
            Loans loans = new Loans(run);
            for (int herd = 0; herd < DEBTORS; herd++) {
                int sum = 0;
                for (int debtor = 0; debtor < DEBTORS; debtor++) {
                    for (int creditor = 0; creditor < DEBTORS; creditor++) {
                        boolean isPaid = loans.shortest(debtor, herd) >= 0
                                && loans.shortest(creditor, herd) >= 0;
                        sum += isPaid ? loans.coins[debtor][creditor] : 0;
                    }
                }
                int h = herd;
                due(run, "claims of " + h, sum, () -> loans.banker.transitiveClaims(h));
            }
        }
    }
}
