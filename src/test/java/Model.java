import java.nio.charset.StandardCharsets;
import java.util.ArrayDeque;
import java.util.ArrayList;
import java.util.Arrays;
import java.util.BitSet;
import java.util.Deque;
import java.util.HashSet;
import java.util.List;
import java.util.NoSuchElementException;
import java.util.Set;
import java.util.regex.Matcher;
import java.util.regex.Pattern;

/**
 * The document once more, written plainly and in another way than the class: with the library's
 * lists, with exceptions, with recursion and with searches in place of the greedy ways.
 */
public final class Model {
    private static final class Request {
        final int herd;
        final int pasture;
        final int amount;

        Request(int herd, int pasture, int amount) {
            this.herd = herd;
            this.pasture = pasture;
            this.amount = amount;
        }
    }

    private static final class TextError extends Exception {
        private static final long serialVersionUID = 1L;
        final int code;
        final int position;

        TextError(int code, int position) {
            this.code = code;
            this.position = position;
        }
    }

    private static final class World {
        List<String> pastures = new ArrayList<>();
        List<String> herds = new ArrayList<>();
        List<Integer> capacities = new ArrayList<>();
        List<int[]> maxima = new ArrayList<>();
        List<int[]> held = new ArrayList<>();
        List<Request> queue = new ArrayList<>();
        int[][] debts;
        int[] counters = new int[4];

        World copy() {
            World other = new World();
            other.pastures = new ArrayList<>(pastures);
            other.herds = new ArrayList<>(herds);
            other.capacities = new ArrayList<>(capacities);
            maxima.forEach(row -> other.maxima.add(row.clone()));
            held.forEach(row -> other.held.add(row.clone()));
            other.queue = new ArrayList<>(queue);
            other.debts = new int[debts.length][];
            for (int debtor = 0; debtor < debts.length; debtor++) {
                other.debts[debtor] = debts[debtor].clone();
            }
            other.counters = counters.clone();
            return other;
        }
    }

    private World w;
    private final Deque<World> past = new ArrayDeque<>();
    private final World[] saved = new World[2];
    private String buffer = "";
    private String output = "";
    private int code = 0;
    private int position = -1;

    public Model() {
        try {
            w = new SetupText("rights;pasture hill 10;pasture fen 5;pasture ridge 7;"
                    + "herd ann 7 5 3;herd bob 3 2 2;herd cid 9 0 2;herd dot 2 2 2;herd eve 4 3 3;")
                    .read();
        } catch (TextError e) {
            throw new AssertionError(e);
        }
    }

    // ---- texts

    private static class Text {
        private static final Pattern TOKEN =
                Pattern.compile("[a-z]+|[0-9]+|;|[ \\n]+|.", Pattern.DOTALL);
        final List<String> tokens = new ArrayList<>();
        final List<Integer> positions = new ArrayList<>();
        int at = 0;

        Text(String text) {
            Matcher matcher = TOKEN.matcher(text);
            while (matcher.find()) {
                String token = matcher.group();
                if (!token.matches("[ \\n]+")) {
                    tokens.add(token);
                    positions.add(matcher.start());
                }
            }
            tokens.add("");
            positions.add(text.length());
        }

        String peek() {
            return tokens.get(at);
        }

        boolean atEnd() {
            return peek().isEmpty();
        }

        TextError error(int code) {
            return new TextError(code, positions.get(at));
        }

        void literal(String word) throws TextError {
            if (!peek().equals(word)) {
                throw error(1);
            }
            at++;
        }

        int number() throws TextError {
            if (!peek().matches("[0-9]{1,3}")) {
                throw error(1);
            }
            return Integer.parseInt(tokens.get(at++));
        }

        int number(int most) throws TextError {
            int value = number();
            if (value > most) {
                at--;
                throw error(2);
            }
            return value;
        }

        String name() throws TextError {
            if (!peek().matches("[a-z]{1,8}")) {
                throw error(1);
            }
            if (peek().length() > 6) {
                throw error(3);
            }
            return peek();
        }

        String newName(List<String> names) throws TextError {
            if (names.contains(name())) {
                throw error(3);
            }
            return tokens.get(at++);
        }

        int oldName(List<String> names) throws TextError {
            if (!names.contains(name())) {
                throw error(3);
            }
            return names.indexOf(tokens.get(at++));
        }
    }

    private static final class SetupText extends Text {
        SetupText(String text) {
            super(text);
        }

        World read() throws TextError {
            World world = new World();
            literal("rights");
            literal(";");
            do {
                if (peek().equals("pasture") && world.pastures.size() == 5) {
                    throw error(4);
                }
                literal("pasture");
                world.pastures.add(newName(world.pastures));
                world.capacities.add(number(50));
                literal(";");
            } while (peek().equals("pasture"));
            do {
                if (peek().equals("herd") && world.herds.size() == 8) {
                    throw error(4);
                }
                literal("herd");
                world.herds.add(newName(world.herds));
                int[] claims = new int[world.pastures.size()];
                for (int pasture = 0; pasture < claims.length; pasture++) {
                    claims[pasture] = number(world.capacities.get(pasture));
                }
                world.maxima.add(claims);
                world.held.add(new int[claims.length]);
                literal(";");
            } while (!atEnd());
            world.debts = new int[world.herds.size()][world.herds.size()];
            return world;
        }
    }

    private final class ScriptText extends Text {
        ScriptText(String text) {
            super(text);
        }

        List<Runnable> read() throws TextError {
            List<Runnable> commands = new ArrayList<>();
            while (!atEnd()) {
                String verb = peek();
                if (!List.of("request", "release", "finish", "cancel", "lend", "repay", "resize")
                        .contains(verb)) {
                    throw error(1);
                }
                if (commands.size() == 30) {
                    throw error(4);
                }
                at++;
                commands.add(command(verb));
                literal(";");
            }
            return commands;
        }

        private Runnable command(String verb) throws TextError {
            if (verb.equals("resize")) {
                int pasture = oldName(w.pastures);
                int units = number();
                return () -> changeCapacity(pasture, units);
            }
            int herd = oldName(w.herds);
            if (verb.equals("finish")) {
                return () -> doFinish(herd);
            }
            if (verb.equals("cancel")) {
                return () -> doCancel(herd);
            }
            if (verb.equals("lend") || verb.equals("repay")) {
                int other = oldName(w.herds);
                int coins = number();
                return verb.equals("lend") ? () -> doLend(herd, other, coins)
                        : () -> doRepay(herd, other, coins);
            }
            int pasture = oldName(w.pastures);
            int units = number();
            return verb.equals("request") ? () -> doRequest(herd, pasture, units)
                    : () -> doRelease(herd, pasture, units);
        }
    }

    public int append(int a, int b, int c, int d, int e) {
        if (buffer.length() + 20 > 600) {
            throw new IllegalStateException();
        }
        byte[] bytes = java.nio.ByteBuffer.allocate(20).putInt(a).putInt(b).putInt(c).putInt(d)
                .putInt(e).array();
        buffer += new String(bytes, StandardCharsets.ISO_8859_1);
        return buffer.length();
    }

    public int truncate(int length) {
        if (length < 0 || length > buffer.length()) {
            throw new IllegalArgumentException();
        }
        buffer = buffer.substring(0, length);
        return length;
    }

    public int load() {
        String text = buffer;
        buffer = "";
        code = 0;
        position = -1;
        try {
            w = new SetupText(text).read();
        } catch (TextError e) {
            code = e.code;
            position = e.position;
            throw new IllegalArgumentException();
        }
        past.clear();
        Arrays.fill(saved, null);
        return w.herds.size();
    }

    public int runScript() {
        String text = buffer;
        buffer = "";
        code = 0;
        position = -1;
        List<Runnable> commands;
        try {
            commands = new ScriptText(text).read();
        } catch (TextError e) {
            code = e.code;
            position = e.position;
            throw new IllegalArgumentException();
        }
        keep(w.copy());
        int executed = 0;
        for (Runnable command : commands) {
            World before = w.copy();
            try {
                command.run();
            } catch (RuntimeException e) {
                w = before;
                break;
            }
            executed++;
        }
        return executed;
    }

    public int errorCode() {
        return code;
    }

    public int errorPosition() {
        return position;
    }

    // ---- pastures and herds

    private void herdExists(int herd) {
        if (herd < 0 || herd >= w.herds.size()) {
            throw new IndexOutOfBoundsException();
        }
    }

    private void pastureExists(int pasture) {
        if (pasture < 0 || pasture >= w.pastures.size()) {
            throw new IndexOutOfBoundsException();
        }
    }

    private void between(int value, int least, int most) {
        if (value < least || value > most) {
            throw new IllegalArgumentException();
        }
    }

    private void state(boolean fine) {
        if (!fine) {
            throw new IllegalStateException();
        }
    }

    public int pastureCount() {
        return w.pastures.size();
    }

    public int herdCount() {
        return w.herds.size();
    }

    public int capacity(int pasture) {
        pastureExists(pasture);
        return w.capacities.get(pasture);
    }

    public int available(int pasture) {
        return capacity(pasture) - w.held.stream().mapToInt(row -> row[pasture]).sum();
    }

    public int maximum(int herd, int pasture) {
        herdExists(herd);
        pastureExists(pasture);
        return w.maxima.get(herd)[pasture];
    }

    public int allocation(int herd, int pasture) {
        herdExists(herd);
        pastureExists(pasture);
        return w.held.get(herd)[pasture];
    }

    public int need(int herd, int pasture) {
        return maximum(herd, pasture) - allocation(herd, pasture);
    }

    public int herdNameByte(int herd, int index) {
        herdExists(herd);
        return w.herds.get(herd).charAt(index);
    }

    public int pastureNameByte(int pasture, int index) {
        pastureExists(pasture);
        return w.pastures.get(pasture).charAt(index);
    }

    public int findHerd() {
        if (!w.herds.contains(buffer)) {
            throw new NoSuchElementException();
        }
        return w.herds.indexOf(buffer);
    }

    // ---- safety

    private int[] free() {
        int[] free = new int[w.pastures.size()];
        Arrays.setAll(free, this::available);
        return free;
    }

    private boolean fits(int herd, int[] free) {
        for (int pasture = 0; pasture < free.length; pasture++) {
            if (need(herd, pasture) > free[pasture]) {
                return false;
            }
        }
        return true;
    }

    private int[] plus(int[] free, int herd) {
        int[] sum = free.clone();
        for (int pasture = 0; pasture < sum.length; pasture++) {
            sum[pasture] += allocation(herd, pasture);
        }
        return sum;
    }

    /** Tries all orders, but no set of herds twice: which order led to it does not matter. */
    private boolean canOrderRest(BitSet done, int[] free, Set<BitSet> seen) {
        if (done.cardinality() == w.herds.size()) {
            return true;
        }
        if (!seen.add((BitSet) done.clone())) {
            return false;
        }
        for (int herd = w.herds.size() - 1; herd >= 0; herd--) {
            if (!done.get(herd) && fits(herd, free)) {
                BitSet next = (BitSet) done.clone();
                next.set(herd);
                if (canOrderRest(next, plus(free, herd), seen)) {
                    return true;
                }
            }
        }
        return false;
    }

    public boolean isSafe() {
        return canOrderRest(new BitSet(), free(), new HashSet<>());
    }

    public int safeOrder(int at) {
        if (!isSafe() || at < 0 || at >= w.herds.size()) {
            return -1;
        }
        List<Integer> order = new ArrayList<>();
        int[] free = free();
        while (order.size() <= at) {
            int herd = 0;
            while (order.contains(herd) || !fits(herd, free)) {
                herd++;
            }
            order.add(herd);
            free = plus(free, herd);
        }
        return order.get(at);
    }

    public boolean canFinish(int herd) {
        herdExists(herd);
        return fits(herd, free());
    }

    private boolean isSafeWith(int herd, int pasture, int amount) {
        w.held.get(herd)[pasture] += amount;
        boolean safe = isSafe();
        w.held.get(herd)[pasture] -= amount;
        return safe;
    }

    public int whyNotGranted(int herd, int pasture, int amount) {
        herdExists(herd);
        pastureExists(pasture);
        between(amount, 1, 50);
        if (isWaiting(herd)) {
            return 1;
        }
        if (amount > need(herd, pasture)) {
            return 2;
        }
        if (amount > available(pasture)) {
            return 3;
        }
        return isSafeWith(herd, pasture, amount) ? 0 : 4;
    }

    public int largestGrant(int herd, int pasture) {
        herdExists(herd);
        pastureExists(pasture);
        int largest = 0;
        for (int amount = 1; amount <= 50; amount++) {
            if (whyNotGranted(herd, pasture, amount) == 0) {
                largest = amount;
            }
        }
        return largest;
    }

    public int safeCapacity(int pasture) {
        int kept = capacity(pasture);
        int held = kept - available(pasture);
        try {
            for (int units = held; units <= 400; units++) {
                w.capacities.set(pasture, units);
                if (isSafe()) {
                    return units;
                }
            }
            return -1;
        } finally {
            w.capacities.set(pasture, kept);
        }
    }

    public int bestToFinish() {
        int best = -1;
        int most = -1;
        for (int herd = 0; herd < w.herds.size(); herd++) {
            World kept = w;
            w = kept.copy();
            int granted = doFinish(herd);
            w = kept;
            if (granted > most) {
                most = granted;
                best = herd;
            }
        }
        return best;
    }

    // ---- queue and deadlocks

    private Request pending(int herd) {
        return w.queue.stream().filter(request -> request.herd == herd).findFirst().orElse(null);
    }

    public int queueLength() {
        return w.queue.size();
    }

    public int queuedHerd(int at) {
        return at < 0 || at >= w.queue.size() ? -1 : w.queue.get(at).herd;
    }

    public boolean isWaiting(int herd) {
        herdExists(herd);
        return pending(herd) != null;
    }

    public int requestedPasture(int herd) {
        return isWaiting(herd) ? pending(herd).pasture : -1;
    }

    public int requestedAmount(int herd) {
        return isWaiting(herd) ? pending(herd).amount : 0;
    }

    public boolean waitsFor(int herd, int other) {
        herdExists(herd);
        herdExists(other);
        Request request = pending(herd);
        return herd != other && request != null && request.amount > available(request.pasture)
                && allocation(other, request.pasture) >= 1;
    }

    private Set<Integer> deadlocked() {
        Set<Integer> left = new HashSet<>();
        for (int herd = 0; herd < w.herds.size(); herd++) {
            left.add(herd);
        }
        int[] free = free();
        boolean again = true;
        while (again) {
            again = false;
            for (int herd = w.herds.size() - 1; herd >= 0; herd--) {
                Request request = pending(herd);
                if (left.contains(herd)
                        && (request == null || request.amount <= free[request.pasture])) {
                    left.remove(herd);
                    free = plus(free, herd);
                    again = true;
                }
            }
        }
        return left;
    }

    public boolean isDeadlocked(int herd) {
        herdExists(herd);
        return deadlocked().contains(herd);
    }

    public int deadlockedCount() {
        return deadlocked().size();
    }

    // ---- debts

    public int debt(int debtor, int creditor) {
        herdExists(debtor);
        herdExists(creditor);
        return w.debts[debtor][creditor];
    }

    public int totalDebt(int herd) {
        herdExists(herd);
        return Arrays.stream(w.debts[herd]).sum();
    }

    public int totalClaims(int herd) {
        herdExists(herd);
        return Arrays.stream(w.debts).mapToInt(row -> row[herd]).sum();
    }

    /** The number of debts of the shortest chain, 0 from a herd to itself, or -1. */
    private int shortestChain(int from, int to) {
        if (from == to) {
            return 0;
        }
        int shortest = -1;
        for (int next = 0; next < w.herds.size(); next++) {
            if (w.debts[from][next] > 0) {
                int rest = shortestChain(next, to);
                if (rest >= 0 && (shortest < 0 || rest + 1 < shortest)) {
                    shortest = rest + 1;
                }
            }
        }
        return shortest;
    }

    public int closedCycleLength(int debtor, int creditor) {
        herdExists(debtor);
        herdExists(creditor);
        int chain = shortestChain(creditor, debtor);
        return chain < 0 ? -1 : chain + 1;
    }

    public int debtDepth(int herd) {
        herdExists(herd);
        int depth = 0;
        for (int next = 0; next < w.herds.size(); next++) {
            if (w.debts[herd][next] > 0) {
                depth = Math.max(depth, 1 + debtDepth(next));
            }
        }
        return depth;
    }

    public int settlementOrder(int at) {
        herdExists(at);
        List<Integer> order = new ArrayList<>();
        while (order.size() <= at) {
            for (int herd = 0; herd < w.herds.size(); herd++) {
                if (!order.contains(herd) && debtorsAreIn(herd, order)) {
                    order.add(herd);
                    break;
                }
            }
        }
        return order.get(at);
    }

    private boolean debtorsAreIn(int herd, List<Integer> order) {
        for (int debtor = 0; debtor < w.herds.size(); debtor++) {
            if (w.debts[debtor][herd] > 0 && !order.contains(debtor)) {
                return false;
            }
        }
        return true;
    }

    public int transitiveClaims(int herd) {
        herdExists(herd);
        int sum = 0;
        for (int debtor = 0; debtor < w.herds.size(); debtor++) {
            for (int creditor = 0; creditor < w.herds.size(); creditor++) {
                if (shortestChain(debtor, herd) >= 0 && shortestChain(creditor, herd) >= 0) {
                    sum += w.debts[debtor][creditor];
                }
            }
        }
        return sum;
    }

    // ---- statistics

    public int immediateGrants() {
        return w.counters[0];
    }

    public int queuedGrants() {
        return w.counters[1];
    }

    public int queuedRequests() {
        return w.counters[2];
    }

    public int withdrawnRequests() {
        return w.counters[3];
    }

    public float utilization(int pasture) {
        int capacity = capacity(pasture);
        return capacity == 0 ? 0.0f : (float) (capacity - available(pasture)) / (float) capacity;
    }

    public double meanDebt() {
        int[] all = Arrays.stream(w.debts).flatMapToInt(Arrays::stream).filter(x -> x > 0).toArray();
        return all.length == 0 ? 0.0 : (double) Arrays.stream(all).sum() / (double) all.length;
    }

    public int inconsistencies() {
        return 0;
    }

    // ---- changes

    private void keep(World before) {
        past.addLast(before);
        if (past.size() > 6) {
            past.removeFirst();
        }
    }

    private interface Change<T> {
        T run();
    }

    private <T> T change(Change<T> change) {
        World before = w.copy();
        T answer = change.run();
        keep(before);
        return answer;
    }

    private int processQueue() {
        int granted = 0;
        boolean again = true;
        while (again) {
            again = false;
            for (Request request : new ArrayList<>(w.queue)) {
                if (request.amount <= available(request.pasture)
                        && isSafeWith(request.herd, request.pasture, request.amount)) {
                    w.held.get(request.herd)[request.pasture] += request.amount;
                    w.queue.remove(request);
                    w.counters[1]++;
                    granted++;
                    again = true;
                }
            }
        }
        return granted;
    }

    private boolean doRequest(int herd, int pasture, int amount) {
        herdExists(herd);
        pastureExists(pasture);
        between(amount, 1, 50);
        int reason = whyNotGranted(herd, pasture, amount);
        state(reason != 1 && reason != 2);
        if (reason == 0) {
            w.held.get(herd)[pasture] += amount;
            w.counters[0]++;
        } else {
            w.queue.add(new Request(herd, pasture, amount));
            w.counters[2]++;
        }
        return reason == 0;
    }

    public boolean request(int herd, int pasture, int amount) {
        return change(() -> doRequest(herd, pasture, amount));
    }

    private int doRelease(int herd, int pasture, int amount) {
        herdExists(herd);
        pastureExists(pasture);
        between(amount, 1, 50);
        state(allocation(herd, pasture) >= amount);
        w.held.get(herd)[pasture] -= amount;
        return processQueue();
    }

    public int release(int herd, int pasture, int amount) {
        return change(() -> doRelease(herd, pasture, amount));
    }

    private void withdraw(int herd) {
        if (w.queue.removeIf(request -> request.herd == herd)) {
            w.counters[3]++;
        }
    }

    private int doFinish(int herd) {
        herdExists(herd);
        withdraw(herd);
        Arrays.fill(w.held.get(herd), 0);
        return processQueue();
    }

    public int finish(int herd) {
        return change(() -> doFinish(herd));
    }

    private int doCancel(int herd) {
        herdExists(herd);
        state(isWaiting(herd));
        withdraw(herd);
        return processQueue();
    }

    public int cancel(int herd) {
        return change(() -> doCancel(herd));
    }

    private int changeCapacity(int pasture, int capacity) {
        pastureExists(pasture);
        between(capacity, 0, 50);
        state(capacity >= capacity(pasture) - available(pasture));
        w.capacities.set(pasture, capacity);
        return processQueue();
    }

    public int setCapacity(int pasture, int capacity) {
        return change(() -> changeCapacity(pasture, capacity));
    }

    public int setMaximum(int herd, int pasture, int maximum) {
        return change(() -> {
            herdExists(herd);
            pastureExists(pasture);
            between(maximum, 0, 50);
            Request request = pending(herd);
            int wanted = request != null && request.pasture == pasture ? request.amount : 0;
            state(maximum >= allocation(herd, pasture) + wanted);
            w.maxima.get(herd)[pasture] = maximum;
            return processQueue();
        });
    }

    private int doLend(int creditor, int debtor, int amount) {
        herdExists(creditor);
        herdExists(debtor);
        between(amount, 1, 999);
        state(shortestChain(creditor, debtor) < 0 && w.debts[debtor][creditor] + amount <= 999);
        w.debts[debtor][creditor] += amount;
        return w.debts[debtor][creditor];
    }

    public int lend(int creditor, int debtor, int amount) {
        return change(() -> doLend(creditor, debtor, amount));
    }

    private int doRepay(int debtor, int creditor, int amount) {
        herdExists(debtor);
        herdExists(creditor);
        between(amount, 1, 999);
        state(amount <= w.debts[debtor][creditor]);
        w.debts[debtor][creditor] -= amount;
        return w.debts[debtor][creditor];
    }

    public int repay(int debtor, int creditor, int amount) {
        return change(() -> doRepay(debtor, creditor, amount));
    }

    // ---- undo, saved states, output

    public int undo() {
        state(!past.isEmpty());
        w = past.removeLast();
        return past.size();
    }

    public int save(int slot) {
        if (slot != 0 && slot != 1) {
            throw new IndexOutOfBoundsException();
        }
        saved[slot] = w.copy();
        return w.queue.size();
    }

    public int restore(int slot) {
        if (slot != 0 && slot != 1) {
            throw new IndexOutOfBoundsException();
        }
        state(saved[slot] != null);
        w = saved[slot].copy();
        past.clear();
        return w.queue.size();
    }

    public int writeAllocations() {
        List<String> parts = new ArrayList<>();
        for (int herd = 0; herd < w.herds.size(); herd++) {
            List<String> units = new ArrayList<>();
            for (int amount : w.held.get(herd)) {
                units.add(String.valueOf(amount));
            }
            parts.add(w.herds.get(herd) + ":" + String.join(",", units)
                    + (isWaiting(herd) ? "?" : ""));
        }
        output = String.join(" ", parts);
        return output.length();
    }

    public int outputByte(int index) {
        if (index < 0 || index >= output.length()) {
            throw new IndexOutOfBoundsException();
        }
        return output.charAt(index);
    }
}
