import java.util.NoSuchElementException;

/**
 * A manager of grazing rights on shared pastures.
 *
 * <p>The methods of the face look at their arguments and throw; the classes inside do the work and
 * never throw. No call makes an object but for the exception that it throws: all rows are made in
 * the constructor and used again.
 */
public final class PastureBanker {
    public static final int NONE = -1;

    private static final int MOST_PASTURES = 5;
    private static final int MOST_HERDS = 8;
    private static final int MOST_UNITS = 50;
    private static final int MOST_COINS = 999;
    private static final int MOST_NAME_LETTERS = 6;
    private static final int MOST_WORD_LETTERS = 8;
    private static final int MOST_DIGITS = 3;
    private static final int MOST_INPUT_BYTES = 600;
    private static final int MOST_OUTPUT_BYTES = 200;
    private static final int MOST_COMMANDS = 30;
    private static final int MOST_ARGUMENTS = 3;
    private static final int MOST_UNDOS = 6;
    private static final int SLOTS = 2;
    private static final int APPENDED_BYTES = 20;

    private static final int NO_FAULT = 0;
    private static final int BAD_INDEX = 1;
    private static final int BAD_ARGUMENT = 2;
    private static final int BAD_STATE = 3;

    private static final int GRANTED = 0;
    private static final int WAITING = 1;
    private static final int ABOVE_NEED = 2;
    private static final int ABOVE_AVAILABLE = 3;
    private static final int UNSAFE = 4;

    private static final String FIRST_SETUP =
            "rights;pasture hill 10;pasture fen 5;pasture ridge 7;herd ann 7 5 3;herd bob 3 2 2;herd cid 9 0 2;herd dot 2 2 2;herd eve 4 3 3;";

    private final Parser parser = new Parser();
    private final Input input = parser.input;
    private final Output output = new Output();
    private final Script script = new Script();
    private final Banker banker = new Banker();
    private final State state = new State();
    private final State trial = new State();
    private final History history = new History();
    private final State[] saved = new State[SLOTS];
    private final boolean[] isSaved = new boolean[SLOTS];

    public PastureBanker() {
        for (int slot = 0; slot < SLOTS; slot++) {
            saved[slot] = new State();
        }
        input.putText(FIRST_SETUP);
        parser.readSetup(state);
        input.length = 0;
    }

    // ---- input

    public int append(int a, int b, int c, int d, int e) throws IllegalStateException {
        if (input.length > MOST_INPUT_BYTES - APPENDED_BYTES) {
            throw new IllegalStateException("the input buffer has no room for 20 bytes");
        }
        input.putFourBytes(a);
        input.putFourBytes(b);
        input.putFourBytes(c);
        input.putFourBytes(d);
        input.putFourBytes(e);
        return input.length;
    }

    public int truncate(int length) throws IllegalArgumentException {
        if (length < 0 || length > input.length) {
            throw new IllegalArgumentException("the length is not between 0 and the buffer's");
        }
        input.length = length;
        return length;
    }

    public int load() throws IllegalArgumentException {
        boolean valid = parser.readSetup(trial);
        input.length = 0;
        if (!valid) {
            throw new IllegalArgumentException("the setup text has an error");
        }
        state.copyFrom(trial);
        history.count = 0;
        for (int slot = 0; slot < SLOTS; slot++) {
            isSaved[slot] = false;
        }
        return state.herds.count;
    }

    public int errorCode() {
        return parser.code;
    }

    public int errorPosition() {
        return parser.position;
    }

    // ---- pastures and herds

    public int pastureCount() {
        return state.pastures.count;
    }

    public int herdCount() {
        return state.herds.count;
    }

    public int capacity(int pasture) throws IndexOutOfBoundsException {
        refuse(Faults.ofPasture(state, pasture));
        return state.capacities[pasture];
    }

    public int available(int pasture) throws IndexOutOfBoundsException {
        refuse(Faults.ofPasture(state, pasture));
        return state.freeUnits(pasture);
    }

    public int maximum(int herd, int pasture) throws IndexOutOfBoundsException {
        refuse(Faults.ofHerdOrPasture(state, herd, pasture));
        return state.maxima[State.cell(herd, pasture)];
    }

    public int allocation(int herd, int pasture) throws IndexOutOfBoundsException {
        refuse(Faults.ofHerdOrPasture(state, herd, pasture));
        return state.allocations[State.cell(herd, pasture)];
    }

    public int need(int herd, int pasture) throws IndexOutOfBoundsException {
        refuse(Faults.ofHerdOrPasture(state, herd, pasture));
        return state.openClaim(herd, pasture);
    }

    public int herdNameByte(int herd, int index) throws IndexOutOfBoundsException {
        refuse(Faults.ofLetter(state.herds, herd, index));
        return state.herds.letter(herd, index);
    }

    public int pastureNameByte(int pasture, int index) throws IndexOutOfBoundsException {
        refuse(Faults.ofLetter(state.pastures, pasture, index));
        return state.pastures.letter(pasture, index);
    }

    public int findHerd() throws NoSuchElementException {
        int herd = state.herds.find(input.bytes, 0, input.length);
        if (herd == NONE) {
            throw new NoSuchElementException("no herd has this name");
        }
        return herd;
    }

    // ---- safety

    public boolean isSafe() {
        return banker.allCanFinish(state);
    }

    public int safeOrder(int position) {
        if (position < 0 || position >= state.herds.count || !banker.allCanFinish(state)) {
            return NONE;
        }
        return banker.order[position];
    }

    public boolean canFinish(int herd) throws IndexOutOfBoundsException {
        refuse(Faults.ofHerd(state, herd));
        return banker.finishesNow(state, herd);
    }

    public int whyNotGranted(int herd, int pasture, int amount)
            throws IndexOutOfBoundsException, IllegalArgumentException {
        refuse(Faults.ofUnits(state, herd, pasture, amount));
        return banker.reasonAgainst(state, herd, pasture, amount);
    }

    public int largestGrant(int herd, int pasture) throws IndexOutOfBoundsException {
        refuse(Faults.ofHerdOrPasture(state, herd, pasture));
        return banker.mostGrantable(state, herd, pasture);
    }

    public int safeCapacity(int pasture) throws IndexOutOfBoundsException {
        refuse(Faults.ofPasture(state, pasture));
        return banker.leastSafeCapacity(state, pasture);
    }

    public int bestToFinish() {
        return banker.bestFinisher(state, trial);
    }

    // ---- queue and deadlocks

    public int queueLength() {
        return state.queued;
    }

    public int queuedHerd(int position) {
        return position >= 0 && position < state.queued ? state.queue[position] : NONE;
    }

    public boolean isWaiting(int herd) throws IndexOutOfBoundsException {
        refuse(Faults.ofHerd(state, herd));
        return state.waits(herd);
    }

    public int requestedPasture(int herd) throws IndexOutOfBoundsException {
        refuse(Faults.ofHerd(state, herd));
        return state.waits(herd) ? state.wantedPastures[herd] : NONE;
    }

    public int requestedAmount(int herd) throws IndexOutOfBoundsException {
        refuse(Faults.ofHerd(state, herd));
        return state.wantedAmounts[herd];
    }

    public boolean waitsFor(int herd, int other) throws IndexOutOfBoundsException {
        refuse(Faults.ofTwoHerds(state, herd, other));
        return herd != other && state.isHeldUpBy(herd, other);
    }

    public boolean isDeadlocked(int herd) throws IndexOutOfBoundsException {
        refuse(Faults.ofHerd(state, herd));
        return isIn(banker.stuckHerds(state), herd);
    }

    public int deadlockedCount() {
        return Integer.bitCount(banker.stuckHerds(state));
    }

    // ---- debts

    public int debt(int debtor, int creditor) throws IndexOutOfBoundsException {
        refuse(Faults.ofTwoHerds(state, debtor, creditor));
        return state.debts.owed(debtor, creditor);
    }

    public int totalDebt(int herd) throws IndexOutOfBoundsException {
        refuse(Faults.ofHerd(state, herd));
        return state.debts.sumBetween(1 << herd, Debts.ALL);
    }

    public int totalClaims(int herd) throws IndexOutOfBoundsException {
        refuse(Faults.ofHerd(state, herd));
        return state.debts.sumBetween(Debts.ALL, 1 << herd);
    }

    public int closedCycleLength(int debtor, int creditor) throws IndexOutOfBoundsException {
        refuse(Faults.ofTwoHerds(state, debtor, creditor));
        return state.debts.cycleClosedBy(debtor, creditor);
    }

    public int debtDepth(int herd) throws IndexOutOfBoundsException {
        refuse(Faults.ofHerd(state, herd));
        return state.debts.longestChain(herd);
    }

    public int settlementOrder(int position) throws IndexOutOfBoundsException {
        // A position is in range exactly if it is the number of a herd.
        refuse(Faults.ofHerd(state, position));
        return state.debts.settledAt(position);
    }

    public int transitiveClaims(int herd) throws IndexOutOfBoundsException {
        refuse(Faults.ofHerd(state, herd));
        int reaching = state.debts.herdsReaching(herd) | 1 << herd;
        return state.debts.sumBetween(reaching, reaching);
    }

    // ---- statistics

    public int immediateGrants() {
        return state.grantedAtOnce;
    }

    public int queuedGrants() {
        return state.grantedLater;
    }

    public int queuedRequests() {
        return state.everQueued;
    }

    public int withdrawnRequests() {
        return state.withdrawn;
    }

    public float utilization(int pasture) throws IndexOutOfBoundsException {
        refuse(Faults.ofPasture(state, pasture));
        int capacity = state.capacities[pasture];
        return capacity == 0 ? 0.0f : (float) state.heldUnits(pasture) / (float) capacity;
    }

    public double meanDebt() {
        int pairs = state.debts.pairs();
        int sum = state.debts.sumBetween(Debts.ALL, Debts.ALL);
        return pairs == 0 ? 0.0 : (double) sum / (double) pairs;
    }

    public int inconsistencies() {
        return state.everQueued - state.grantedLater - state.withdrawn - state.queued
                + state.excessiveAllocations() + state.debts.herdsInCycles();
    }

    // ---- changes

    public boolean request(int herd, int pasture, int amount)
            throws IndexOutOfBoundsException, IllegalArgumentException, IllegalStateException {
        refuse(Faults.ofRequest(state, herd, pasture, amount));
        history.remember(state);
        return banker.grantOrQueue(state, herd, pasture, amount);
    }

    public int release(int herd, int pasture, int amount)
            throws IndexOutOfBoundsException, IllegalArgumentException, IllegalStateException {
        refuse(Faults.ofRelease(state, herd, pasture, amount));
        history.remember(state);
        return banker.takeBack(state, herd, pasture, amount);
    }

    public int finish(int herd) throws IndexOutOfBoundsException {
        refuse(Faults.ofHerd(state, herd));
        history.remember(state);
        return banker.takeBackAll(state, herd);
    }

    public int cancel(int herd) throws IndexOutOfBoundsException, IllegalStateException {
        refuse(Faults.ofCancel(state, herd));
        history.remember(state);
        return banker.withdrawRequest(state, herd);
    }

    public int setCapacity(int pasture, int capacity)
            throws IndexOutOfBoundsException, IllegalArgumentException, IllegalStateException {
        refuse(Faults.ofCapacity(state, pasture, capacity));
        history.remember(state);
        return banker.resize(state, pasture, capacity);
    }

    public int setMaximum(int herd, int pasture, int maximum)
            throws IndexOutOfBoundsException, IllegalArgumentException, IllegalStateException {
        refuse(Faults.ofMaximum(state, herd, pasture, maximum));
        history.remember(state);
        return banker.changeClaim(state, herd, pasture, maximum);
    }

    public int lend(int creditor, int debtor, int amount)
            throws IndexOutOfBoundsException, IllegalArgumentException, IllegalStateException {
        refuse(Faults.ofLoan(state, creditor, debtor, amount));
        history.remember(state);
        return state.debts.change(debtor, creditor, amount);
    }

    public int repay(int debtor, int creditor, int amount)
            throws IndexOutOfBoundsException, IllegalArgumentException, IllegalStateException {
        refuse(Faults.ofRepayment(state, debtor, creditor, amount));
        history.remember(state);
        return state.debts.change(debtor, creditor, -amount);
    }

    public int runScript() throws IllegalArgumentException {
        boolean valid = parser.readScript(state, script);
        input.length = 0;
        if (!valid) {
            throw new IllegalArgumentException("the script has an error");
        }
        history.remember(state);
        int executed = 0;
        while (executed < script.length && execute(executed)) {
            executed++;
        }
        return executed;
    }

    // ---- undo, saved states, output

    public int undo() throws IllegalStateException {
        if (history.count == 0) {
            throw new IllegalStateException("there is no change to undo");
        }
        history.takeBack(state);
        return history.count;
    }

    public int save(int slot) throws IndexOutOfBoundsException {
        refuse(Faults.ofSlot(slot));
        saved[slot].copyFrom(state);
        isSaved[slot] = true;
        return state.queued;
    }

    public int restore(int slot) throws IndexOutOfBoundsException, IllegalStateException {
        refuse(Faults.ofSlot(slot));
        if (!isSaved[slot]) {
            throw new IllegalStateException("nothing is saved in this slot");
        }
        state.copyFrom(saved[slot]);
        history.count = 0;
        return state.queued;
    }

    public int writeAllocations() {
        output.length = 0;
        for (int herd = 0; herd < state.herds.count; herd++) {
            if (herd > 0) {
                output.put(' ');
            }
            writeHerd(herd);
        }
        return output.length;
    }

    public int outputByte(int index) throws IndexOutOfBoundsException {
        if (index < 0 || index >= output.length) {
            throw new IndexOutOfBoundsException("the output text has no such byte");
        }
        return output.bytes[index];
    }

    // ---- what several methods of the face need

    private static void refuse(int fault) {
        if (fault == BAD_INDEX) {
            throw new IndexOutOfBoundsException("no such herd, pasture, letter, position or slot");
        }
        if (fault == BAD_ARGUMENT) {
            throw new IllegalArgumentException("the number is out of range");
        }
        if (fault == BAD_STATE) {
            throw new IllegalStateException("the state does not allow this");
        }
    }

    private boolean execute(int command) {
        int kind = script.kind(command);
        int a = script.argument(command, 0);
        int b = script.argument(command, 1);
        int c = script.argument(command, 2);
        if (Faults.ofCommand(state, kind, a, b, c) != NO_FAULT) {
            return false;
        }
        switch (kind) {
            case Script.REQUEST:
                banker.grantOrQueue(state, a, b, c);
                break;
            case Script.RELEASE:
                banker.takeBack(state, a, b, c);
                break;
            case Script.FINISH:
                banker.takeBackAll(state, a);
                break;
            case Script.CANCEL:
                banker.withdrawRequest(state, a);
                break;
            case Script.LEND:
                state.debts.change(b, a, c);
                break;
            case Script.REPAY:
                state.debts.change(a, b, -c);
                break;
            default:
                banker.resize(state, a, b);
                break;
        }
        return true;
    }

    private void writeHerd(int herd) {
        for (int index = 0; index < state.herds.lengths[herd]; index++) {
            output.put(state.herds.letter(herd, index));
        }
        for (int pasture = 0; pasture < state.pastures.count; pasture++) {
            output.put(pasture == 0 ? ':' : ',');
            output.putNumber(state.allocations[State.cell(herd, pasture)]);
        }
        if (state.waits(herd)) {
            output.put('?');
        }
    }

    /** Sets of herds are bits of an int, so that no call has to make a row for one. */
    private static boolean isIn(int herds, int herd) {
        return (herds >> herd & 1) != 0;
    }

    /** What speaks against a call: the first exception that its promise lists and that applies. */
    private static final class Faults {
        static int ofHerd(State s, int herd) {
            return s.herds.has(herd) ? NO_FAULT : BAD_INDEX;
        }

        static int ofPasture(State s, int pasture) {
            return s.pastures.has(pasture) ? NO_FAULT : BAD_INDEX;
        }

        static int ofHerdOrPasture(State s, int herd, int pasture) {
            return s.herds.has(herd) && s.pastures.has(pasture) ? NO_FAULT : BAD_INDEX;
        }

        static int ofTwoHerds(State s, int herd, int other) {
            return s.herds.has(herd) && s.herds.has(other) ? NO_FAULT : BAD_INDEX;
        }

        static int ofLetter(Names names, int name, int index) {
            if (!names.has(name) || index < 0 || index >= names.lengths[name]) {
                return BAD_INDEX;
            }
            return NO_FAULT;
        }

        static int ofSlot(int slot) {
            return slot >= 0 && slot < SLOTS ? NO_FAULT : BAD_INDEX;
        }

        static int ofUnits(State s, int herd, int pasture, int amount) {
            if (!s.herds.has(herd) || !s.pastures.has(pasture)) {
                return BAD_INDEX;
            }
            return amount >= 1 && amount <= MOST_UNITS ? NO_FAULT : BAD_ARGUMENT;
        }

        static int ofRequest(State s, int herd, int pasture, int amount) {
            int fault = ofUnits(s, herd, pasture, amount);
            if (fault != NO_FAULT) {
                return fault;
            }
            return s.waits(herd) || amount > s.openClaim(herd, pasture) ? BAD_STATE : NO_FAULT;
        }

        static int ofRelease(State s, int herd, int pasture, int amount) {
            int fault = ofUnits(s, herd, pasture, amount);
            if (fault != NO_FAULT) {
                return fault;
            }
            return amount > s.allocations[State.cell(herd, pasture)] ? BAD_STATE : NO_FAULT;
        }

        static int ofCancel(State s, int herd) {
            if (!s.herds.has(herd)) {
                return BAD_INDEX;
            }
            return s.waits(herd) ? NO_FAULT : BAD_STATE;
        }

        static int ofCapacity(State s, int pasture, int capacity) {
            if (!s.pastures.has(pasture)) {
                return BAD_INDEX;
            }
            if (capacity < 0 || capacity > MOST_UNITS) {
                return BAD_ARGUMENT;
            }
            return capacity < s.heldUnits(pasture) ? BAD_STATE : NO_FAULT;
        }

        static int ofMaximum(State s, int herd, int pasture, int maximum) {
            if (!s.herds.has(herd) || !s.pastures.has(pasture)) {
                return BAD_INDEX;
            }
            if (maximum < 0 || maximum > MOST_UNITS) {
                return BAD_ARGUMENT;
            }
            int promised = s.allocations[State.cell(herd, pasture)] + s.wanted(herd, pasture);
            return maximum < promised ? BAD_STATE : NO_FAULT;
        }

        static int ofCoins(State s, int herd, int other, int amount) {
            if (!s.herds.has(herd) || !s.herds.has(other)) {
                return BAD_INDEX;
            }
            return amount >= 1 && amount <= MOST_COINS ? NO_FAULT : BAD_ARGUMENT;
        }

        static int ofLoan(State s, int creditor, int debtor, int amount) {
            int fault = ofCoins(s, creditor, debtor, amount);
            if (fault != NO_FAULT) {
                return fault;
            }
            if (s.debts.cycleClosedBy(debtor, creditor) != NONE) {
                return BAD_STATE;
            }
            return amount > MOST_COINS - s.debts.owed(debtor, creditor) ? BAD_STATE : NO_FAULT;
        }

        static int ofRepayment(State s, int debtor, int creditor, int amount) {
            int fault = ofCoins(s, debtor, creditor, amount);
            if (fault != NO_FAULT) {
                return fault;
            }
            return amount > s.debts.owed(debtor, creditor) ? BAD_STATE : NO_FAULT;
        }

        static int ofCommand(State s, int kind, int a, int b, int c) {
            switch (kind) {
                case Script.REQUEST:
                    return ofRequest(s, a, b, c);
                case Script.RELEASE:
                    return ofRelease(s, a, b, c);
                case Script.FINISH:
                    return ofHerd(s, a);
                case Script.CANCEL:
                    return ofCancel(s, a);
                case Script.LEND:
                    return ofLoan(s, a, b, c);
                case Script.REPAY:
                    return ofRepayment(s, a, b, c);
                default:
                    return ofCapacity(s, a, b);
            }
        }
    }

    /** The names of all pastures or of all herds, in the order of the setup text. */
    private static final class Names {
        // As long for pastures as for herds, so that any two objects can be copied.
        final byte[] letters = new byte[MOST_HERDS * MOST_NAME_LETTERS];
        final int[] lengths = new int[MOST_HERDS];
        int count;

        void copyFrom(Names other) {
            System.arraycopy(other.letters, 0, letters, 0, letters.length);
            System.arraycopy(other.lengths, 0, lengths, 0, lengths.length);
            count = other.count;
        }

        boolean has(int name) {
            return name >= 0 && name < count;
        }

        int letter(int name, int index) {
            return letters[name * MOST_NAME_LETTERS + index];
        }

        void add(byte[] text, int start, int length) {
            if (count >= MOST_HERDS || length > MOST_NAME_LETTERS) {
                return;
            }
            System.arraycopy(text, start, letters, count * MOST_NAME_LETTERS, length);
            lengths[count] = length;
            count++;
        }

        int find(byte[] text, int start, int length) {
            for (int name = 0; name < count; name++) {
                if (lengths[name] == length && isAt(name, text, start)) {
                    return name;
                }
            }
            return NONE;
        }

        private boolean isAt(int name, byte[] text, int start) {
            for (int index = 0; index < lengths[name]; index++) {
                if (letters[name * MOST_NAME_LETTERS + index] != text[start + index]) {
                    return false;
                }
            }
            return true;
        }
    }

    /** All that undo, save and restore bring back. */
    private static final class State {
        final Names pastures = new Names();
        final Names herds = new Names();
        final int[] capacities = new int[MOST_PASTURES];
        final int[] maxima = new int[MOST_HERDS * MOST_PASTURES];
        final int[] allocations = new int[MOST_HERDS * MOST_PASTURES];
        final int[] wantedPastures = new int[MOST_HERDS];
        // 0 for a herd that is not waiting.
        final int[] wantedAmounts = new int[MOST_HERDS];
        final int[] queue = new int[MOST_HERDS];
        int queued;
        final Debts debts = new Debts();
        int grantedAtOnce;
        int grantedLater;
        int everQueued;
        int withdrawn;

        static int cell(int herd, int pasture) {
            return herd * MOST_PASTURES + pasture;
        }

        void copyFrom(State other) {
            pastures.copyFrom(other.pastures);
            herds.copyFrom(other.herds);
            System.arraycopy(other.capacities, 0, capacities, 0, capacities.length);
            System.arraycopy(other.maxima, 0, maxima, 0, maxima.length);
            System.arraycopy(other.allocations, 0, allocations, 0, allocations.length);
            System.arraycopy(other.wantedPastures, 0, wantedPastures, 0, wantedPastures.length);
            System.arraycopy(other.wantedAmounts, 0, wantedAmounts, 0, wantedAmounts.length);
            System.arraycopy(other.queue, 0, queue, 0, queue.length);
            queued = other.queued;
            debts.copyFrom(other.debts);
            grantedAtOnce = other.grantedAtOnce;
            grantedLater = other.grantedLater;
            everQueued = other.everQueued;
            withdrawn = other.withdrawn;
        }

        void clear() {
            pastures.count = 0;
            herds.count = 0;
            for (int herd = 0; herd < MOST_HERDS; herd++) {
                wantedAmounts[herd] = 0;
                for (int pasture = 0; pasture < MOST_PASTURES; pasture++) {
                    allocations[cell(herd, pasture)] = 0;
                }
            }
            queued = 0;
            debts.clear();
            grantedAtOnce = 0;
            grantedLater = 0;
            everQueued = 0;
            withdrawn = 0;
        }

        int heldUnits(int pasture) {
            int held = 0;
            for (int herd = 0; herd < herds.count; herd++) {
                held += allocations[herd * MOST_PASTURES + pasture];
            }
            return held;
        }

        int freeUnits(int pasture) {
            return capacities[pasture] - heldUnits(pasture);
        }

        int openClaim(int herd, int pasture) {
            return maxima[cell(herd, pasture)] - allocations[cell(herd, pasture)];
        }

        boolean waits(int herd) {
            return wantedAmounts[herd] > 0;
        }

        int wanted(int herd, int pasture) {
            return waits(herd) && wantedPastures[herd] == pasture ? wantedAmounts[herd] : 0;
        }

        boolean isHeldUpBy(int herd, int other) {
            if (!waits(herd)) {
                return false;
            }
            int pasture = wantedPastures[herd];
            boolean isHolding = allocations[cell(other, pasture)] > 0;
            return isHolding && wantedAmounts[herd] > freeUnits(pasture);
        }

        void joinQueue(int herd, int pasture, int amount) {
            // Each herd is in the queue at most once, so there is always room.
            if (queued >= MOST_HERDS) {
                return;
            }
            queue[queued] = herd;
            queued++;
            wantedPastures[herd] = pasture;
            wantedAmounts[herd] = amount;
        }

        void leaveQueue(int herd) {
            int kept = 0;
            for (int place = 0; place < queued; place++) {
                if (queue[place] != herd) {
                    queue[kept] = queue[place];
                    kept++;
                }
            }
            queued = kept;
            wantedAmounts[herd] = 0;
        }

        int excessiveAllocations() {
            int excessive = 0;
            for (int herd = 0; herd < herds.count; herd++) {
                for (int pasture = 0; pasture < pastures.count; pasture++) {
                    if (openClaim(herd, pasture) < 0) {
                        excessive++;
                    }
                }
            }
            return excessive;
        }
    }

    /** Who owes whom how much. Herds that do not exist owe nothing, so all loops run over 8. */
    private static final class Debts {
        static final int ALL = (1 << MOST_HERDS) - 1;

        final int[] coins = new int[MOST_HERDS * MOST_HERDS];

        void copyFrom(Debts other) {
            System.arraycopy(other.coins, 0, coins, 0, coins.length);
        }

        void clear() {
            for (int pair = 0; pair < coins.length; pair++) {
                coins[pair] = 0;
            }
        }

        int owed(int debtor, int creditor) {
            return coins[debtor * MOST_HERDS + creditor];
        }

        int change(int debtor, int creditor, int difference) {
            int pair = debtor * MOST_HERDS + creditor;
            coins[pair] += difference;
            return coins[pair];
        }

        int sumBetween(int debtors, int creditors) {
            int sum = 0;
            for (int debtor = 0; debtor < MOST_HERDS; debtor++) {
                for (int creditor = 0; creditor < MOST_HERDS; creditor++) {
                    if (isIn(debtors, debtor) && isIn(creditors, creditor)) {
                        sum += owed(debtor, creditor);
                    }
                }
            }
            return sum;
        }

        int pairs() {
            int pairs = 0;
            for (int pair = 0; pair < coins.length; pair++) {
                if (coins[pair] > 0) {
                    pairs++;
                }
            }
            return pairs;
        }

        /** The herds to which at least one of the given herds owes a debt. */
        int creditorsOf(int debtors) {
            int creditors = 0;
            for (int debtor = 0; debtor < MOST_HERDS; debtor++) {
                for (int creditor = 0; creditor < MOST_HERDS; creditor++) {
                    if (owed(debtor, creditor) > 0 && isIn(debtors, debtor)) {
                        creditors |= 1 << creditor;
                    }
                }
            }
            return creditors;
        }

        /** The herds that owe at least one of the given herds a debt. */
        int debtorsOf(int creditors) {
            int debtors = 0;
            for (int debtor = 0; debtor < MOST_HERDS; debtor++) {
                for (int creditor = 0; creditor < MOST_HERDS; creditor++) {
                    if (owed(debtor, creditor) > 0 && isIn(creditors, creditor)) {
                        debtors |= 1 << debtor;
                    }
                }
            }
            return debtors;
        }

        /** The herds from which a chain of debts leads to the given herd. */
        int herdsReaching(int herd) {
            int reaching = debtorsOf(1 << herd);
            for (int step = 2; step <= MOST_HERDS; step++) {
                reaching |= debtorsOf(reaching);
            }
            return reaching;
        }

        int herdsInCycles() {
            int count = 0;
            for (int herd = 0; herd < MOST_HERDS; herd++) {
                if (isIn(herdsReaching(herd), herd)) {
                    count++;
                }
            }
            return count;
        }

        int cycleClosedBy(int debtor, int creditor) {
            int chainEnds = 1 << creditor;
            for (int length = 1; length <= MOST_HERDS; length++) {
                if (isIn(chainEnds, debtor)) {
                    return length;
                }
                chainEnds = creditorsOf(chainEnds);
            }
            return NONE;
        }

        int longestChain(int herd) {
            int length = 0;
            int chainEnds = creditorsOf(1 << herd);
            while (length < MOST_HERDS && chainEnds != 0) {
                length++;
                chainEnds = creditorsOf(chainEnds);
            }
            return length;
        }

        int settledAt(int position) {
            int settled = 0;
            int herd = NONE;
            for (int place = 0; place <= position && place < MOST_HERDS; place++) {
                herd = nextToSettle(settled);
                settled |= 1 << herd;
            }
            return herd;
        }

        private int nextToSettle(int settled) {
            for (int herd = 0; herd < MOST_HERDS; herd++) {
                if (!isIn(settled, herd) && (debtorsOf(1 << herd) & ~settled) == 0) {
                    return herd;
                }
            }
            // Never reached: debts without a cycle always leave a herd without an open debtor.
            return 0;
        }
    }

    /** The banker's algorithm, the queue and the deadlock detection. */
    private static final class Banker {
        final int[] order = new int[MOST_HERDS];
        private final int[] free = new int[MOST_PASTURES];

        private void startWithAvailable(State s) {
            for (int pasture = 0; pasture < s.pastures.count; pasture++) {
                int units = s.capacities[pasture];
                for (int herd = 0; herd < s.herds.count; herd++) {
                    units -= s.allocations[herd * MOST_PASTURES + pasture];
                }
                free[pasture] = units;
            }
        }

        private void addAllocations(State s, int herd) {
            int first = herd * MOST_PASTURES;
            for (int pasture = 0; pasture < s.pastures.count; pasture++) {
                free[pasture] += s.allocations[first + pasture];
            }
        }

        private boolean finishesWithFree(State s, int herd) {
            int first = herd * MOST_PASTURES;
            for (int pasture = 0; pasture < s.pastures.count; pasture++) {
                if (s.maxima[first + pasture] - s.allocations[first + pasture] > free[pasture]) {
                    return false;
                }
            }
            return true;
        }

        boolean finishesNow(State s, int herd) {
            startWithAvailable(s);
            return finishesWithFree(s, herd);
        }

        /** Tells whether the state is safe; if it is, the row order holds the safe order. */
        boolean allCanFinish(State s) {
            startWithAvailable(s);
            int ordered = 0;
            for (int place = 0; place < s.herds.count; place++) {
                int herd = 0;
                while (herd < s.herds.count
                        && (isIn(ordered, herd) || !finishesWithFree(s, herd))) {
                    herd++;
                }
                if (herd == s.herds.count) {
                    return false;
                }
                order[place] = herd;
                ordered |= 1 << herd;
                addAllocations(s, herd);
            }
            return true;
        }

        private boolean isGrantable(State s, int herd, int pasture, int amount) {
            startWithAvailable(s);
            if (amount > free[pasture]) {
                return false;
            }
            int cell = State.cell(herd, pasture);
            s.allocations[cell] += amount;
            boolean safe = allCanFinish(s);
            s.allocations[cell] -= amount;
            return safe;
        }

        int reasonAgainst(State s, int herd, int pasture, int amount) {
            if (s.waits(herd)) {
                return WAITING;
            }
            if (amount > s.openClaim(herd, pasture)) {
                return ABOVE_NEED;
            }
            if (amount > s.freeUnits(pasture)) {
                return ABOVE_AVAILABLE;
            }
            return isGrantable(s, herd, pasture, amount) ? GRANTED : UNSAFE;
        }

        int mostGrantable(State s, int herd, int pasture) {
            int amount = Math.min(s.openClaim(herd, pasture), s.freeUnits(pasture));
            while (amount > 0 && reasonAgainst(s, herd, pasture, amount) != GRANTED) {
                amount--;
            }
            return Math.max(amount, 0);
        }

        int leastSafeCapacity(State s, int pasture) {
            int kept = s.capacities[pasture];
            int held = s.heldUnits(pasture);
            int found = NONE;
            // No need is above 50, so 50 available units do as well as any more would: what is not
            // safe with them is not safe with a capacity of 400 either.
            for (int spare = 0; spare <= MOST_UNITS && found == NONE; spare++) {
                s.capacities[pasture] = held + spare;
                if (allCanFinish(s)) {
                    found = held + spare;
                }
            }
            s.capacities[pasture] = kept;
            return found;
        }

        int bestFinisher(State s, State trial) {
            int best = 0;
            int most = 0;
            for (int herd = 0; herd < s.herds.count; herd++) {
                trial.copyFrom(s);
                int granted = takeBackAll(trial, herd);
                if (granted > most) {
                    most = granted;
                    best = herd;
                }
            }
            return best;
        }

        boolean grantOrQueue(State s, int herd, int pasture, int amount) {
            if (isGrantable(s, herd, pasture, amount)) {
                s.allocations[State.cell(herd, pasture)] += amount;
                s.grantedAtOnce++;
                return true;
            }
            s.joinQueue(herd, pasture, amount);
            s.everQueued++;
            return false;
        }

        int takeBack(State s, int herd, int pasture, int amount) {
            s.allocations[State.cell(herd, pasture)] -= amount;
            return serveQueue(s);
        }

        int takeBackAll(State s, int herd) {
            if (s.waits(herd)) {
                s.leaveQueue(herd);
                s.withdrawn++;
            }
            for (int pasture = 0; pasture < s.pastures.count; pasture++) {
                s.allocations[State.cell(herd, pasture)] = 0;
            }
            return serveQueue(s);
        }

        int withdrawRequest(State s, int herd) {
            s.leaveQueue(herd);
            s.withdrawn++;
            return serveQueue(s);
        }

        int resize(State s, int pasture, int capacity) {
            s.capacities[pasture] = capacity;
            return serveQueue(s);
        }

        int changeClaim(State s, int herd, int pasture, int maximum) {
            s.maxima[State.cell(herd, pasture)] = maximum;
            return serveQueue(s);
        }

        /** Processes the queue and tells how many requests were granted. */
        private int serveQueue(State s) {
            int before = s.grantedLater;
            int last = NONE;
            for (int visit = 0; visit <= MOST_HERDS && s.grantedLater != last; visit++) {
                last = s.grantedLater;
                int place = 0;
                for (int left = s.queued; left > 0 && place < s.queued; left--) {
                    int herd = s.queue[place];
                    int pasture = s.wantedPastures[herd];
                    int amount = s.wantedAmounts[herd];
                    if (isGrantable(s, herd, pasture, amount)) {
                        // The rest of the queue moves up, so the place stays as it is.
                        s.leaveQueue(herd);
                        s.allocations[State.cell(herd, pasture)] += amount;
                        s.grantedLater++;
                    } else {
                        place++;
                    }
                }
            }
            return s.grantedLater - before;
        }

        /** The herds that the deadlock detection never picks. */
        int stuckHerds(State s) {
            startWithAvailable(s);
            int stuck = (1 << s.herds.count) - 1;
            for (int round = 0; round < s.herds.count; round++) {
                for (int herd = 0; herd < s.herds.count; herd++) {
                    if (isIn(stuck, herd) && goesOnWithFree(s, herd)) {
                        stuck &= ~(1 << herd);
                        addAllocations(s, herd);
                    }
                }
            }
            return stuck;
        }

        private boolean goesOnWithFree(State s, int herd) {
            return !s.waits(herd) || s.wantedAmounts[herd] <= free[s.wantedPastures[herd]];
        }
    }

    /** The states before the latest changes, the oldest of which gives way to a seventh. */
    private static final class History {
        private final State[] states = new State[MOST_UNDOS];
        private int next;
        int count;

        History() {
            for (int place = 0; place < MOST_UNDOS; place++) {
                states[place] = new State();
            }
        }

        void remember(State s) {
            states[next].copyFrom(s);
            next = next + 1 < MOST_UNDOS ? next + 1 : 0;
            count = Math.min(count + 1, MOST_UNDOS);
        }

        void takeBack(State s) {
            next = next > 0 ? next - 1 : MOST_UNDOS - 1;
            s.copyFrom(states[next]);
            count--;
        }
    }

    /** The input buffer, and the token of it that the parser looks at. */
    private static final class Input {
        static final int END = 0;
        static final int WORD = 1;
        static final int NUMBER = 2;
        static final int SEMICOLON = 3;
        static final int INVALID = 4;

        final byte[] bytes = new byte[MOST_INPUT_BYTES];
        int length;
        int kind;
        int start;
        int end;
        int value;

        void putText(String text) {
            for (int index = 0; index < text.length(); index++) {
                put(text.charAt(index));
            }
        }

        void putFourBytes(int four) {
            put(four >> 24);
            put(four >> 16);
            put(four >> 8);
            put(four);
        }

        private void put(int sign) {
            if (length < MOST_INPUT_BYTES) {
                bytes[length] = (byte) sign;
                length++;
            }
        }

        void readFirst() {
            end = 0;
            readNext();
        }

        void readNext() {
            start = end;
            while (start < length && isSeparator(bytes[start])) {
                start++;
            }
            end = start;
            while (end < length && isLetter(bytes[end])) {
                end++;
            }
            if (end > start) {
                kind = end - start <= MOST_WORD_LETTERS ? WORD : INVALID;
                return;
            }
            value = 0;
            while (end < length && isDigit(bytes[end])) {
                value = value * 10 + bytes[end] - '0';
                end++;
            }
            if (end > start) {
                kind = end - start <= MOST_DIGITS ? NUMBER : INVALID;
                return;
            }
            readSign();
        }

        private void readSign() {
            if (start >= length) {
                kind = END;
                return;
            }
            kind = bytes[start] == ';' ? SEMICOLON : INVALID;
            end = start + 1;
        }

        boolean isWord(String word) {
            if (kind != WORD || end - start != word.length()) {
                return false;
            }
            for (int index = 0; index < word.length(); index++) {
                if (bytes[start + index] != word.charAt(index)) {
                    return false;
                }
            }
            return true;
        }

        private static boolean isSeparator(int sign) {
            return sign == ' ' || sign == '\n';
        }

        private static boolean isLetter(int sign) {
            return sign >= 'a' && sign <= 'z';
        }

        private static boolean isDigit(int sign) {
            return sign >= '0' && sign <= '9';
        }
    }

    /** Reads setup texts and scripts. Its methods tell whether what they read has no error. */
    private static final class Parser {
        private static final int NOT_ALLOWED = 1;
        private static final int OUT_OF_RANGE = 2;
        private static final int WRONG_NAME = 3;
        private static final int TOO_MANY = 4;

        final Input input = new Input();
        int code;
        int position = NONE;

        private void start() {
            code = 0;
            position = NONE;
            input.readFirst();
        }

        private boolean fail(int error) {
            code = error;
            position = input.start;
            return false;
        }

        boolean readSetup(State s) {
            start();
            s.clear();
            return keyword("rights") && semicolon() && pastures(s) && herds(s);
        }

        private boolean pastures(State s) {
            if (!pasture(s)) {
                return false;
            }
            for (int more = 1; more < MOST_PASTURES && input.isWord("pasture"); more++) {
                if (!pasture(s)) {
                    return false;
                }
            }
            return !input.isWord("pasture") || fail(TOO_MANY);
        }

        private boolean pasture(State s) {
            int pasture = s.pastures.count;
            if (pasture >= MOST_PASTURES || !keyword("pasture") || !newName(s.pastures)
                    || !numberUpTo(MOST_UNITS)) {
                return false;
            }
            s.capacities[pasture] = input.value;
            input.readNext();
            return semicolon();
        }

        private boolean herds(State s) {
            if (!herd(s)) {
                return false;
            }
            for (int more = 1; more < MOST_HERDS && input.kind != Input.END; more++) {
                if (!herd(s)) {
                    return false;
                }
            }
            if (input.kind == Input.END) {
                return true;
            }
            return fail(input.isWord("herd") ? TOO_MANY : NOT_ALLOWED);
        }

        private boolean herd(State s) {
            int herd = s.herds.count;
            if (herd >= MOST_HERDS || !keyword("herd") || !newName(s.herds)) {
                return false;
            }
            for (int pasture = 0; pasture < s.pastures.count; pasture++) {
                if (!numberUpTo(s.capacities[pasture])) {
                    return false;
                }
                s.maxima[State.cell(herd, pasture)] = input.value;
                input.readNext();
            }
            return semicolon();
        }

        boolean readScript(State s, Script script) {
            start();
            script.length = 0;
            for (int read = 0; read < MOST_COMMANDS && input.kind != Input.END; read++) {
                if (!command(s, script)) {
                    return false;
                }
            }
            if (input.kind == Input.END) {
                return true;
            }
            return fail(commandKind() != NONE ? TOO_MANY : NOT_ALLOWED);
        }

        private int commandKind() {
            for (int kind = 0; kind < Script.KINDS; kind++) {
                if (input.isWord(Script.word(kind))) {
                    return kind;
                }
            }
            return NONE;
        }

        private boolean command(State s, Script script) {
            int kind = commandKind();
            if (kind == NONE) {
                return fail(NOT_ALLOWED);
            }
            input.readNext();
            script.add(kind);
            switch (kind) {
                case Script.REQUEST:
                case Script.RELEASE:
                    return name(s.herds, script, 0) && name(s.pastures, script, 1)
                            && number(script, 2) && semicolon();
                case Script.LEND:
                case Script.REPAY:
                    return name(s.herds, script, 0) && name(s.herds, script, 1)
                            && number(script, 2) && semicolon();
                case Script.RESIZE:
                    return name(s.pastures, script, 0) && number(script, 1) && semicolon();
                default:
                    return name(s.herds, script, 0) && semicolon();
            }
        }

        private boolean keyword(String word) {
            if (!input.isWord(word)) {
                return fail(NOT_ALLOWED);
            }
            input.readNext();
            return true;
        }

        private boolean semicolon() {
            if (input.kind != Input.SEMICOLON) {
                return fail(NOT_ALLOWED);
            }
            input.readNext();
            return true;
        }

        private boolean numberUpTo(int most) {
            if (input.kind != Input.NUMBER) {
                return fail(NOT_ALLOWED);
            }
            return input.value <= most || fail(OUT_OF_RANGE);
        }

        private boolean newName(Names names) {
            if (input.kind != Input.WORD) {
                return fail(NOT_ALLOWED);
            }
            int length = input.end - input.start;
            if (length > MOST_NAME_LETTERS
                    || names.find(input.bytes, input.start, length) != NONE) {
                return fail(WRONG_NAME);
            }
            names.add(input.bytes, input.start, length);
            input.readNext();
            return true;
        }

        private boolean name(Names names, Script script, int argument) {
            if (input.kind != Input.WORD) {
                return fail(NOT_ALLOWED);
            }
            int found = names.find(input.bytes, input.start, input.end - input.start);
            if (found == NONE) {
                return fail(WRONG_NAME);
            }
            script.setArgument(argument, found);
            input.readNext();
            return true;
        }

        private boolean number(Script script, int argument) {
            if (input.kind != Input.NUMBER) {
                return fail(NOT_ALLOWED);
            }
            script.setArgument(argument, input.value);
            input.readNext();
            return true;
        }
    }

    /** The commands of the script that was read last. */
    private static final class Script {
        static final int REQUEST = 0;
        static final int RELEASE = 1;
        static final int FINISH = 2;
        static final int CANCEL = 3;
        static final int LEND = 4;
        static final int REPAY = 5;
        static final int RESIZE = 6;
        static final int KINDS = 7;

        private final int[] kinds = new int[MOST_COMMANDS];
        private final int[] arguments = new int[MOST_COMMANDS * MOST_ARGUMENTS];
        int length;

        static String word(int kind) {
            switch (kind) {
                case REQUEST:
                    return "request";
                case RELEASE:
                    return "release";
                case FINISH:
                    return "finish";
                case CANCEL:
                    return "cancel";
                case LEND:
                    return "lend";
                case REPAY:
                    return "repay";
                default:
                    return "resize";
            }
        }

        void add(int kind) {
            if (length < MOST_COMMANDS) {
                kinds[length] = kind;
                length++;
            }
        }

        /** Sets an argument of the command that was added last. */
        void setArgument(int argument, int value) {
            if (length > 0) {
                arguments[(length - 1) * MOST_ARGUMENTS + argument] = value;
            }
        }

        int kind(int command) {
            return kinds[command];
        }

        int argument(int command, int argument) {
            return arguments[command * MOST_ARGUMENTS + argument];
        }
    }

    /** The output text. */
    private static final class Output {
        final byte[] bytes = new byte[MOST_OUTPUT_BYTES];
        int length;

        void put(int sign) {
            if (length < MOST_OUTPUT_BYTES) {
                bytes[length] = (byte) sign;
                length++;
            }
        }

        /** Puts a number of units, which never has more than two digits. */
        void putNumber(int units) {
            if (units >= 10) {
                put('0' + units / 10);
            }
            put('0' + units % 10);
        }
    }
}
