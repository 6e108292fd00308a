import java.lang.reflect.InvocationTargetException;
import java.lang.reflect.Method;
import java.util.ArrayList;
import java.util.HashMap;
import java.util.List;
import java.util.Map;

/** Long runs of calls on the class and on the model, which must answer each call alike. */
public final class ModelTest {
    private static final int CALLS = 512;
    private static final int[] EDGES = {Integer.MIN_VALUE, -2, -1, 0, 1, 2, 49, 50, 51, 399, 400,
        998, 999, 1000, Integer.MAX_VALUE};

    /** Each method with the kinds of its arguments: herd, pasture, units, coins, slot, index. */
    private static final String[] CHANGES = {"request hpu", "request hpu", "request hpu",
        "request hpu", "request hpu", "release hpu", "release hpu", "finish h", "cancel h", "setCapacity pu",
        "setMaximum hpu", "setMaximum hpu", "lend hhc", "lend hhc", "lend hhc", "repay hhc",
        "undo ", "undo ", "save s", "restore s"};
    private static final String[] QUERIES = {"errorCode ", "errorPosition ", "pastureCount ",
        "herdCount ", "capacity p", "available p", "maximum hp", "allocation hp", "need hp",
        "herdNameByte hi", "pastureNameByte pi", "findHerd ", "isSafe ", "safeOrder i",
        "canFinish h", "whyNotGranted hpu", "largestGrant hp", "safeCapacity p", "bestToFinish ",
        "queueLength ", "queuedHerd i", "isWaiting h", "requestedPasture h", "requestedAmount h",
        "waitsFor hh", "isDeadlocked h", "deadlockedCount ", "debt hh", "totalDebt h",
        "totalClaims h", "closedCycleLength hh", "debtDepth h", "settlementOrder i",
        "transitiveClaims h", "immediateGrants ", "queuedGrants ", "queuedRequests ",
        "withdrawnRequests ", "utilization p", "meanDebt ", "inconsistencies ",
        "writeAllocations ", "outputByte i", "truncate i"};

    private final Map<String, Method> ours = new HashMap<>();
    private final Map<String, Method> theirs = new HashMap<>();
    private final Map<String, Integer> answers = new HashMap<>();
    private final List<String> log = new ArrayList<>();
    private long seed;
    private PastureBanker banker;
    private Model model;
    private boolean failed;
    // In a wild run many claims and capacities are set, which leaves few states safe.
    private boolean wild;

    public static void main(String[] args) throws Exception {
        int runs = args.length > 0 ? Integer.parseInt(args[0]) : 400;
        ModelTest test = new ModelTest();
        for (int run = 1; run <= runs && !test.failed; run++) {
            test.run(run);
        }
        if (args.length > 1) {
            test.answers.forEach((answer, times) -> System.out.println(times + " " + answer));
        }
        System.out.println("ModelTest: " + runs + " runs, " + (test.failed ? "wrong" : "all alike"));
        if (test.failed) {
            System.exit(1);
        }
    }

    private ModelTest() {
        for (Method method : PastureBanker.class.getDeclaredMethods()) {
            ours.put(method.getName(), method);
        }
        for (Method method : Model.class.getDeclaredMethods()) {
            if (java.lang.reflect.Modifier.isPublic(method.getModifiers())) {
                theirs.put(method.getName(), method);
            }
        }
    }

    private int below(int bound) {
        seed = seed * 6364136223846793005L + 1442695040888963407L;
        return (int) ((seed >>> 33) % bound);
    }

    private boolean once(int in) {
        return below(in) == 0;
    }

    private void run(int number) throws Exception {
        seed = number * 7919L;
        banker = new PastureBanker();
        model = new Model();
        wild = once(3);
        log.clear();
        if (!once(4)) {
            put(setup());
            call("load");
        }
        int most = 4 + below(CALLS);
        while (log.size() < most && !isOver()) {
            int dice = below(100);
            if (dice < 50) {
                random(CHANGES[below(CHANGES.length)]);
            } else if (dice < 92) {
                random(QUERIES[below(QUERIES.length)]);
            } else if (dice < 98) {
                put(once(8) ? noise() : damaged(script()));
                call(once(20) ? "load" : "runScript");
            } else {
                put(once(2) ? damaged(setup()) : name(model.herdCount(), true));
                call(once(3) ? "findHerd" : "load");
            }
        }
        everything();
    }

    /** The document promises nothing of an object after its 512th call. */
    private boolean isOver() {
        return failed || log.size() >= CALLS;
    }

    private void everything() throws Exception {
        for (String query : QUERIES) {
            String[] parts = query.split(" ", -1);
            int first = parts[1].isEmpty() ? 1 : 8;
            int second = parts[1].length() < 2 ? 1 : 8;
            for (int a = 0; a < first && !isOver(); a++) {
                for (int b = 0; b < second && !isOver(); b++) {
                    if (parts[1].length() == 3) {
                        call(parts[0], a, b, 1);
                    } else if (parts[1].length() == 2) {
                        call(parts[0], a, b);
                    } else if (parts[1].length() == 1) {
                        call(parts[0], a);
                    } else {
                        call(parts[0]);
                    }
                }
            }
        }
    }

    private void random(String what) throws Exception {
        String[] parts = what.split(" ", -1);
        Integer[] arguments = new Integer[parts[1].length()];
        for (int index = 0; index < arguments.length; index++) {
            arguments[index] = argument(parts[1].charAt(index));
        }
        if (parts[0].startsWith("set") && !wild && !once(10)) {
            return;
        }
        if (parts[1].equals("hpu") && !once(4)) {
            arguments[2] = fitting(parts[0], arguments[0], arguments[1]);
        }
        call(parts[0], arguments);
    }

    /** An amount with which the call has a good chance to do something. */
    private int fitting(String call, int herd, int pasture) {
        if (herd < 0 || herd >= model.herdCount() || pasture < 0
                || pasture >= model.pastureCount()) {
            return 1;
        }
        int held = model.allocation(herd, pasture);
        if (call.equals("release")) {
            return 1 + below(Math.max(held, 1));
        }
        if (call.equals("setMaximum")) {
            return held + below(5);
        }
        return 1 + below(Math.max(model.need(herd, pasture), 1));
    }

    private int argument(char kind) {
        if (once(40)) {
            return EDGES[below(EDGES.length)];
        }
        boolean near = once(20);
        switch (kind) {
            case 'h':
                return near ? below(10) - 1 : below(model.herdCount());
            case 'p':
                return near ? below(7) - 1 : below(model.pastureCount());
            case 'u':
                return once(6) ? below(53) - 1 : below(7);
            case 'c':
                return once(4) ? below(1002) : 1 + below(20);
            case 's':
                return below(near ? 4 : 2) - (near ? 1 : 0);
            default:
                return below(near ? 200 : 10) - 1;
        }
    }

    private void call(String name, Integer... arguments) throws Exception {
        if (isOver()) {
            return;
        }
        String call = name + java.util.Arrays.toString(arguments);
        String want = answer(theirs.get(name), model, arguments);
        String got = answer(ours.get(name), banker, arguments);
        answers.merge(name + " " + (want.length() < 3 || want.startsWith("throws") ? want : "more"),
                1, Integer::sum);
        log.add(call + " = " + want);
        if (!want.equals(got)) {
            failed = true;
            log.forEach(System.out::println);
            System.out.println(call + " answered " + got + ", due is " + want);
        }
    }

    private static String answer(Method method, Object object, Object[] arguments)
            throws Exception {
        try {
            return String.valueOf(method.invoke(object, arguments));
        } catch (InvocationTargetException e) {
            Throwable thrown = e.getCause();
            if (object instanceof Model && thrown instanceof StringIndexOutOfBoundsException) {
                return "throws IndexOutOfBoundsException";
            }
            return "throws " + thrown.getClass().getSimpleName();
        }
    }

    private void put(String whole) throws Exception {
        String text = whole.length() > 580 ? whole.substring(0, 580) : whole;
        call("truncate", 0);
        for (int from = 0; from < text.length(); from += 20) {
            int[] words = Check.wordsAt(text, from);
            call("append", words[0], words[1], words[2], words[3], words[4]);
        }
        call("truncate", text.length());
    }

    // ---- texts

    private String gap() {
        return once(10) ? " \n ".substring(below(3)) : " ";
    }

    private String name(int known, boolean herd) {
        if (once(60)) {
            return new String[] {"abcdef", "abcdefg", "abcdefgh", "abcdefghi", "herd", "pasture",
                "a"}[below(7)];
        }
        int number = below(known + (once(40) ? 2 : 0));
        StringBuilder name = new StringBuilder();
        if (number < known) {
            for (int index = 0; index < 6; index++) {
                try {
                    name.append((char) (herd ? model.herdNameByte(number, index)
                            : model.pastureNameByte(number, index)));
                } catch (IndexOutOfBoundsException end) {
                    return name.toString();
                }
            }
            return name.toString();
        }
        return "nobody";
    }

    private String setup() {
        String[] names = {"a", "b", "rights", "pasture", "herd", "cow", "sheep", "goats", "hill",
            "lend"};
        StringBuilder text = new StringBuilder("rights;");
        int pastures = once(30) ? 6 : 1 + below(5);
        int units = 1 + below(once(3) ? 50 : 8);
        int[] capacities = new int[pastures];
        int first = below(10);
        for (int pasture = 0; pasture < pastures; pasture++) {
            capacities[pasture] = below(units + 1);
            int step = once(60) ? 0 : pasture;
            text.append("pasture").append(gap()).append(names[(first + step) % 10]).append(gap())
                    .append(capacities[pasture]).append(gap()).append(';').append(gap());
        }
        int herds = once(30) ? 9 : 1 + below(8);
        for (int herd = 0; herd < herds; herd++) {
            int step = once(60) ? 0 : herd;
            text.append("herd ").append(names[(first + step) % 10]);
            for (int pasture = 0; pasture < pastures; pasture++) {
                text.append(gap()).append(below(capacities[pasture] + (once(90) ? 2 : 1)));
            }
            text.append(";");
        }
        return text.toString();
    }

    private String script() {
        StringBuilder text = new StringBuilder();
        int commands = once(8) ? 29 + below(4) : below(8);
        for (int command = 0; command < commands; command++) {
            text.append(commands > 20 ? "finish " + name(model.herdCount(), true) : command());
            text.append(gap()).append(';').append(once(3) ? gap() : "");
        }
        return text.toString();
    }

    private String command() {
        String herd = name(model.herdCount(), true);
        String other = name(model.herdCount(), true);
        String pasture = name(model.pastureCount(), false);
        int number = once(12) ? below(1002) : below(6);
        switch (below(7)) {
            case 0:
                return "release" + gap() + herd + gap() + pasture + gap() + number;
            case 1:
                return "finish" + gap() + herd;
            case 2:
                return "cancel" + gap() + herd;
            case 3:
                return "lend" + gap() + herd + gap() + other + gap() + number;
            case 4:
                return "repay" + gap() + herd + gap() + other + gap() + number;
            case 5:
                return "resize" + gap() + pasture + gap() + number;
            default:
                return "request" + gap() + herd + gap() + pasture + gap() + number;
        }
    }

    private String damaged(String text) {
        if (text.isEmpty() || !once(3)) {
            return text;
        }
        int at = below(text.length());
        String signs = ";; \na0z99$\u00ff\t{`/:A";
        String sign = String.valueOf(signs.charAt(below(signs.length())));
        switch (below(4)) {
            case 0:
                return text.substring(0, at);
            case 1:
                return text.substring(0, at) + text.substring(at + 1);
            case 2:
                return text.substring(0, at) + sign + text.substring(at);
            default:
                return text.substring(0, at) + sign + text.substring(at + 1);
        }
    }

    private String noise() {
        StringBuilder text = new StringBuilder();
        for (int left = below(40); left > 0; left--) {
            text.append((char) below(256));
        }
        return text.toString();
    }
}
