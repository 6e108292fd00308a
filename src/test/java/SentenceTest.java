import java.lang.reflect.Method;
import java.util.Arrays;
import java.util.Map;
import java.util.regex.Matcher;
import java.util.regex.Pattern;

/**
 * The sentences of the document that no other test quotes, from the first to the last; and that
 * each sentence of it is quoted by this test or by one of those that it runs.
 */
public final class SentenceTest {
    private static final Class<?> STATE = IllegalStateException.class;

    private interface Call {
        Object on(PastureBanker b);
    }

    public static void main(String[] args) {
        TermsTest.main(args);
        EdgeTest.main(args);
        RefusalTest.main(args);
        NumberTest.main(args);
        DefinitionTest.main(args);
        calls();
        whatItDoes();
        pasturesAndHerds();
        grants();
        tokens();
        grammar();
        execution();
        none();
        sections();
        input();
        codes();
        counts();
        herds();
        names();
        safety();
        queue();
        deadlocks();
        debts();
        chains();
        counters();
        statistics();
        request();
        releaseAndFinish();
        otherChanges();
        coins();
        runScript();
        undo();
        outputByte();
        Sentences.allSentencesQuoted();
        Check.finish("SentenceTest");
    }

    private static void terms(String sentence) {
        Sentences.aboutTerms(sentence);
    }

    private static void about(int promise, String sentence) {
        Sentences.about(promise, sentence);
    }

    private static void due(String what, Object want, Check.Call call) {
        Check.due(what, want, call);
    }

    /** The answer that is due at first, after a change and when this has been undone. */
    private static void follows(int promise, String sentence, Look.Build build, Call question,
            Object before, Call change, Object after) {
        about(promise, sentence);
        PastureBanker b = build.make();
        due("before", before, () -> question.on(b));
        due("asked again", before, () -> question.on(b));
        change.on(b);
        due("after", after, () -> question.on(b));
        due("asked again", after, () -> question.on(b));
        b.undo();
        due("undone", before, () -> question.on(b));
    }

    /** y holds the two units of a, the claims of x and z on it are 2. */
    private static PastureBanker held() {
        PastureBanker b = Check.loaded(States.setup(1, 2, 3, 2));
        b.request(1, 0, 2);
        return b;
    }

    /** As held, and z waits for two units. */
    private static PastureBanker waiting() {
        PastureBanker b = held();
        b.request(2, 0, 2);
        return b;
    }

    /** x holds a and waits for b; y holds b and claims a too, but does not wait for it yet. */
    private static PastureBanker nearDeadlock() {
        PastureBanker b = Check.loaded("rights;pasture a 1;pasture b 1;herd x 1 0;herd y 0 1;");
        b.request(0, 0, 1);
        b.request(1, 1, 1);
        b.setMaximum(0, 1, 1);
        b.setMaximum(1, 0, 1);
        b.request(0, 1, 1);
        return b;
    }

    // ---- What it is, Terms

    private static void calls() {
        Sentences.aboutWhatItIs("An object is used for at most 512 calls after it has been made; "
                + "what later calls answer is free.");
        PastureBanker debts = new PastureBanker();
        for (int call = 1; call <= 511; call++) {
            int coins = call;
            due("call " + call, coins, () -> debts.lend(0, 1, 1));
        }
        due("call 512", 511, () -> debts.debt(1, 0));
        PastureBanker texts = new PastureBanker();
        for (int call = 4; call <= 512; call += 4) {
            texts.append(0x66696e69, 0x73682065, 0x76653b20, 0x20202020, 0x20202020);
            due("call " + (call - 2), 1, texts::runScript);
            texts.save(1);
            due("call " + call, 0, () -> texts.restore(1));
        }
    }

    private static void whatItDoes() {
        terms("It avoids deadlocks with the banker's algorithm, keeps a queue of pending requests, "
                + "detects deadlocks in the wait-for relation, and records debts between herds "
                + "whose graph must stay acyclic.");
        PastureBanker b = Check.loaded(States.setup(2, 1, 2, 1));
        due("x may have a", true, () -> b.request(0, 0, 1));
        due("y may not have b, which x needs too", false, () -> b.request(1, 1, 1));
        due("y is in the queue", "1 ", () -> Look.queue(b));
        due("nobody is deadlocked", 0, b::deadlockedCount);
        due("x may have b", true, () -> b.request(0, 1, 1));
        due("y goes on when x finishes", 1, () -> b.finish(0));
        PastureBanker stuck = nearDeadlock();
        stuck.request(1, 0, 1);
        due("two wait for each other", 2, stuck::deadlockedCount);
        due("y owes x", 5, () -> b.lend(0, 1, 5));
        due("x may not owe y", STATE, () -> b.lend(1, 0, 5));
    }

    private static void pasturesAndHerds() {
        PastureBanker b = Check.loaded("rights;pasture hill 0;pasture fen 50;pasture ridge 7;"
                + "herd ann 0 50 6;herd bob 0 1 7;");
        terms("A pasture has a name and a capacity (0 to 50 units).");
        due("pasture 0", "hill 0", () -> Look.pastureName(b, 0) + " " + b.capacity(0));
        due("pasture 1", "fen 50", () -> Look.pastureName(b, 1) + " " + b.capacity(1));
        due("pasture 2", "ridge 7", () -> Look.pastureName(b, 2) + " " + b.capacity(2));
        terms("A herd has a name and, for each pasture, a maximum claim (0 to 50 units) and an "
                + "allocation (the units that it holds, never more than its maximum claim).");
        b.request(0, 1, 49);
        b.request(1, 2, 7);
        due("herd 0", "ann 0/0 49/50 0/6 ", () -> herd(b, 0));
        due("herd 1", "bob 0/0 0/1 7/7 ", () -> herd(b, 1));
        terms("The remaining need of a herd on a pasture is its maximum claim minus its "
                + "allocation.");
        int[][] needs = {{0, 1, 6}, {0, 1, 0}};
        for (int herd = 0; herd < 2; herd++) {
            for (int pasture = 0; pasture < 3; pasture++) {
                int h = herd;
                int p = pasture;
                due("need", needs[h][p], () -> b.need(h, p));
            }
        }
    }

    private static String herd(PastureBanker b, int herd) {
        StringBuilder text = new StringBuilder(Look.herdName(b, herd)).append(' ');
        for (int pasture = 0; pasture < 3; pasture++) {
            text.append(b.allocation(herd, pasture)).append('/').append(b.maximum(herd, pasture))
                    .append(' ');
        }
        return text.toString();
    }

    private static void grants() {
        terms("A granted request increases the allocation of the herd.");
        PastureBanker b = held();
        due("at once", 2, () -> b.allocation(1, 0));
        b.request(2, 0, 2);
        due("not yet", 0, () -> b.allocation(2, 0));
        due("from the queue", 1, () -> b.release(1, 0, 2));
        due("from the queue", 2, () -> b.allocation(2, 0));
        b.setCapacity(0, 3);
        due("one more for x", true, () -> b.request(0, 0, 1));
        due("x had none", 1, () -> b.allocation(0, 0));
        b.setMaximum(2, 0, 3);
        b.finish(0);
        due("one more for z", true, () -> b.request(2, 0, 1));
        due("z had two", 3, () -> b.allocation(2, 0));
    }

    private static void tokens() {
        terms("The tokens of a text are words, numbers and semicolons.");
        String fine = "lend ann bob 5;";
        due("words, a number, a semicolon", "ran 1",
                () -> Check.script(new PastureBanker(), fine));
        due("in one piece", "ran 1", () -> Check.script(new PastureBanker(), "lend ann bob5;"));
        for (String other : new String[] {"-5", "+5", "5.", "'5", "0x5", "five", "5e", "5_"}) {
            String text = "lend ann bob " + other + ";";
            due("<" + text + ">", "error 1", () -> Check.script(new PastureBanker(), text)
                    .substring(0, 7));
        }
        for (String sign : new String[] {",", ":", ".", "|", "\t", "\r"}) {
            String text = fine.replace(";", sign);
            due("<" + text + ">", "error 1 at 14", () -> Check.script(new PastureBanker(), text));
        }
    }

    private static void grammar() {
        terms("herd = \"herd\" name maximum { maximum }");
        String pasture = "rights;pasture a 9;";
        due("one herd", "loaded 1", () -> Check.load(new PastureBanker(), pasture + "herd x 1;"));
        due("no maximum", "error 1 at 25",
                () -> Check.load(new PastureBanker(), pasture + "herd x;"));
        due("no name", "error 1 at 24",
                () -> Check.load(new PastureBanker(), pasture + "herd 1;"));
        due("no herd", "error 1 at 19", () -> Check.load(new PastureBanker(), pasture + "x 1;"));
        due("more", "loaded 1", () -> Check.load(new PastureBanker(),
                pasture + "pasture b 9;pasture c 9;herd x 1 2 3;"));
        terms("command = \"request\" herdname pasturename number | \"release\" herdname "
                + "pasturename number | \"finish\" herdname | \"cancel\" herdname | \"lend\" "
                + "herdname herdname number | \"repay\" herdname herdname number | \"resize\" "
                        + "pasturename number");
        String[] commands = {"request ann fen 1;", "release ann fen 1;", "finish ann;",
            "cancel ann;", "lend ann bob 1;", "repay ann bob 1;", "resize fen 1;"};
        for (String command : commands) {
            due(command, false, () -> Check.script(new PastureBanker(), command).startsWith("e"));
            String more = command.replace(";", " 1;");
            due(more, "error 1 at " + (command.length()),
                    () -> Check.script(new PastureBanker(), more));
            String less = command.substring(0, command.lastIndexOf(' ')) + ";";
            due(less, "error 1 at " + (less.length() - 1),
                    () -> Check.script(new PastureBanker(), less));
            String first = command.substring(command.indexOf(' ') + 1);
            due(first, "error 1 at 0", () -> Check.script(new PastureBanker(), first));
        }
        terms("A text is parsed from left to right.");
        due("the setup's first error", "error 2 at 17",
                () -> Check.load(new PastureBanker(), "rights;pasture a 51;pasture a 52;$"));
        due("the script's first error", "error 3 at 7",
                () -> Check.script(new PastureBanker(), "finish zoe;finish yan;$"));
    }

    private static void execution() {
        terms("A script without an error is executed command by command.");
        PastureBanker b = new PastureBanker();
        due("each one builds on those before it", "ran 6",
                () -> Check.script(b, "request ann fen 4;request bob fen 2;finish ann;"
                        + "lend ann bob 3;repay bob ann 1;lend ann bob 7;"));
        due("bob waited until ann finished", "1 1 1 0", () -> Look.counters(b));
        due("coins", 9, () -> b.debt(1, 0));
        PastureBanker other = new PastureBanker();
        due("in this order", "ran 2",
                () -> Check.script(other, "lend ann bob 1;repay bob ann 1;repay bob ann 1;"));
        due("and in no other", "ran 0",
                () -> Check.script(other, "repay bob ann 1;lend ann bob 1;"));
        due("all repaid", 0, () -> other.debt(1, 0));
    }

    private static void none() {
        terms("The constants: `NONE = -1`: Returned where there is no herd, no pasture or no "
                + "number.");
        PastureBanker b = Check.loaded(States.setup(2, 1, 2, 1));
        due("no herd in the queue", PastureBanker.NONE, () -> b.queuedHerd(0));
        due("no herd in the order", PastureBanker.NONE, () -> b.safeOrder(2));
        due("no requested pasture", PastureBanker.NONE, () -> b.requestedPasture(0));
        due("no cycle", PastureBanker.NONE, () -> b.closedCycleLength(0, 1));
        due("no error", PastureBanker.NONE, b::errorPosition);
        b.setMaximum(0, 1, 2);
        due("no capacity", PastureBanker.NONE, () -> b.safeCapacity(0));
        due("NONE", -1, () -> PastureBanker.NONE);
    }

    // ---- Terms: the sections of the interface

    private static final Map<String, int[]> ARGUMENTS = Map.of("request", new int[] {1, 0, 1},
            "release", new int[] {2, 0, 1}, "cancel", new int[] {0},
            "setCapacity", new int[] {0, 20}, "setMaximum", new int[] {0, 0, 9},
            "lend", new int[] {1, 0, 1}, "repay", new int[] {0, 1, 1});

    /** The calls of the section "changes" are changes, those of the other sections are none. */
    private static void sections() {
        Matcher line = Pattern.compile("Ahead of the calls (.*) the interface says: ---- (.*)\\.")
                .matcher(Sentences.terms());
        int count = 0;
        while (line.find()) {
            terms(line.group());
            for (String name : line.group(1).replace("`", "").split(", ")) {
                boolean isChange = line.group(2).equals("changes");
                due(name + " is a change", isChange, () -> canBeUndone(name));
                count++;
            }
        }
        int calls = count;
        due("calls in all", 58, () -> calls);
    }

    private static boolean canBeUndone(String name) {
        PastureBanker b = States.busy();
        b.save(0);
        b.restore(0);
        for (Method method : PastureBanker.class.getDeclaredMethods()) {
            if (method.getName().equals(name)) {
                call(b, method);
                return isUndone(b);
            }
        }
        throw new IllegalArgumentException(name);
    }

    private static void call(PastureBanker b, Method method) {
        int[] numbers = new int[method.getParameterCount()];
        Arrays.fill(numbers, 1);
        int[] chosen = ARGUMENTS.getOrDefault(method.getName(), numbers);
        try {
            method.invoke(b, Arrays.stream(chosen).boxed().toArray());
        } catch (java.lang.reflect.InvocationTargetException refused) {
            return;
        } catch (IllegalAccessException e) {
            throw new IllegalStateException(e);
        }
    }

    private static boolean isUndone(PastureBanker b) {
        try {
            return b.undo() == 0;
        } catch (IllegalStateException none) {
            return false;
        }
    }

    // ---- Promises 2 to 6

    private static void input() {
        about(2, "Appends 20 bytes to the input buffer: the four bytes of each argument, the most "
                + "significant byte first.");
        PastureBanker b = new PastureBanker();
        b.append(0x6c656e64, 0x20616e6e, 0x20626f62, 0x2037383b, 0x6c656e64);
        due("all 40 bytes", 40,
                () -> b.append(0x20616e6e, 0x20626f62, 0x2032323b, 0x20202020, 0x20202020));
        due("lend ann bob 78;lend ann bob 22;", 2, b::runScript);
        due("78 and 22", 100, () -> b.debt(1, 0));
        about(3, "Truncates the input buffer.");
        Check.put(b, "finish ann;finish bob;finish cid;");
        due("behind the second command", 22, () -> b.truncate(22));
        due("two are left", 2, b::runScript);
        Check.put(b, "finish ann;");
        due("of all", 0, () -> b.truncate(0));
        due("none is left", 0, b::runScript);
        about(4, "Parses the input buffer as a setup text and empties the buffer, also if the text "
                + "has an error.");
        due("a setup", "loaded 1", () -> Check.load(b, "rights;pasture a 1;herd x 1;"));
        due("empty", 0, () -> Look.length(b));
        b.truncate(0);
        due("a script is no setup", "error 1 at 0", () -> Check.load(b, "finish x;"));
        due("empty", 0, () -> Look.length(b));
        b.truncate(0);
        due("the whole buffer", "error 1 at 28",
                () -> Check.load(b, "rights;pasture a 1;herd x 1;finish x;"));
    }

    private static void codes() {
        String setup = "rights;pasture a 1;herd x 1;";
        about(5, "Returns the error code of the latest call of load() or runScript().");
        latest(PastureBanker::errorCode, 0, 2, 0, 3, 0, 1, 0);
        about(6, "Returns the error position of the latest call of load() or runScript().");
        latest(PastureBanker::errorPosition, -1, 17, -1, 7, -1, setup.length(), -1);
    }

    private static void latest(Call question, Object... due) {
        PastureBanker b = new PastureBanker();
        due("no call", due[0], () -> question.on(b));
        Check.load(b, "rights;pasture a 99;");
        due("load", due[1], () -> question.on(b));
        Check.load(b, "rights;pasture a 1;herd x 1;");
        due("load", due[2], () -> question.on(b));
        Check.script(b, "finish y;");
        due("runScript", due[3], () -> question.on(b));
        Check.script(b, "finish x;");
        due("runScript", due[4], () -> question.on(b));
        Check.load(b, "rights;pasture a 1;herd x 1;x");
        due("load", due[5], () -> question.on(b));
        Check.script(b, "repay x x 1;");
        due("runScript", due[6], () -> question.on(b));
    }

    // ---- Promises 7 to 16

    private static void counts() {
        about(7, "Returns the number of pastures.");
        PastureBanker b = new PastureBanker();
        due("of the first setup", 3, b::pastureCount);
        Check.load(b, States.setup(5, 1, 2, 1));
        due("of the next setup", 5, b::pastureCount);
        Check.load(b, States.setup(6, 1, 2, 1));
        due("an error changes nothing", 5, b::pastureCount);
        Check.load(b, States.setup(1, 1, 2, 1));
        due("of the last setup", 1, b::pastureCount);
        about(8, "Returns the number of herds.");
        due("of the last setup", 2, b::herdCount);
        Check.load(b, States.setup(1, 1, 8, 1));
        due("of the next setup", 8, b::herdCount);
        Check.load(b, States.setup(1, 1, 9, 1));
        due("an error changes nothing", 8, b::herdCount);
    }

    private static void herds() {
        Call fourOfFen = b -> b.request(0, 1, 4);
        follows(9, "Returns the capacity of a pasture.", PastureBanker::new, b -> b.capacity(1), 5,
                b -> b.setCapacity(1, 9), 9);
        follows(10, "Returns the available units of a pasture.", PastureBanker::new,
                b -> b.available(1), 5, fourOfFen, 1);
        follows(11, "Returns the maximum claim of a herd on a pasture.", PastureBanker::new,
                b -> b.maximum(4, 2), 3, b -> b.setMaximum(4, 2, 9), 9);
        follows(12, "Returns the allocation of a herd on a pasture.", PastureBanker::new,
                b -> b.allocation(0, 1), 0, fourOfFen, 4);
        follows(13, "Returns the remaining need of a herd on a pasture.", PastureBanker::new,
                b -> b.need(0, 1), 5, fourOfFen, 1);
    }

    private static void names() {
        PastureBanker b = new PastureBanker();
        about(14, "Returns a letter of the name of a herd.");
        due("of bob", (int) 'o', () -> b.herdNameByte(1, 1));
        String[] herds = {"ann", "bob", "cid", "dot", "eve"};
        for (int herd = 0; herd < 5; herd++) {
            int h = herd;
            due("all", herds[h], () -> Look.herdName(b, h));
        }
        about(15, "Returns a letter of the name of a pasture.");
        due("of fen", (int) 'n', () -> b.pastureNameByte(1, 2));
        due("all", "hill fen ridge", () -> Look.pastureName(b, 0) + " " + Look.pastureName(b, 1)
                + " " + Look.pastureName(b, 2));
        about(16, "Finds a herd by its name.");
        Check.put(b, "dot");
        due("dot", 3, b::findHerd);
        b.truncate(0);
        Check.load(b, "rights;pasture a 1;herd dot 1;herd ann 1;");
        Check.put(b, "dot");
        due("dot of the next setup", 0, b::findHerd);
    }

    // ---- Promises 17 to 31

    private static void safety() {
        Look.Build fresh = PastureBanker::new;
        follows(17, "Tells whether the current state is safe.", fresh, PastureBanker::isSafe, true,
                b -> b.setCapacity(2, 2), false);
        follows(18, "Returns a herd of the safe order.",
                () -> Check.loaded("rights;pasture a 4;herd x 4;herd y 2;"),
                b -> b.safeOrder(0) + " " + b.safeOrder(1), "0 1", b -> b.request(1, 0, 1), "1 0");
        follows(19, "Tells whether a herd can finish with the currently available units.", fresh,
                b -> b.canFinish(0), true, b -> b.setCapacity(0, 6), false);
        follows(20, "Tells why a request could not be granted at once.", fresh,
                b -> b.whyNotGranted(0, 0, 7), 0, b -> b.setCapacity(0, 6), 3);
        follows(21, "Returns the largest amount that would be granted to a herd at once.", fresh,
                b -> b.largestGrant(0, 0), 7, b -> b.setCapacity(0, 8), 0);
        follows(22, "Returns the least capacity of a pasture with which the current state would be "
                + "safe, if the capacities of all other pastures stayed the same.", fresh,
                b -> b.safeCapacity(0), 9, b -> b.setMaximum(2, 0, 8), 8);
        follows(23, "Returns the herd whose finishing would let the most waiting herds continue.",
                SentenceTest::held, PastureBanker::bestToFinish, 0, b -> b.request(2, 0, 1), 1);
    }

    private static void queue() {
        Call two = b -> b.request(2, 0, 2);
        Look.Build held = SentenceTest::held;
        follows(24, "Returns the length of the queue.", held, PastureBanker::queueLength, 0, two, 1);
        follows(25, "Returns a herd of the queue.", held, b -> b.queuedHerd(0), -1, two, 2);
        follows(26, "Tells whether a herd is waiting.", held, b -> b.isWaiting(2), false, two, true);
        follows(27, "Returns the pasture of the pending request of a herd.", held,
                b -> b.requestedPasture(2), -1, two, 0);
        follows(28, "Returns the amount of the pending request of a herd.", held,
                b -> b.requestedAmount(2), 0, two, 2);
        follows(29, "Tells whether a herd waits for another herd.", held, b -> b.waitsFor(2, 1),
                false, two, true);
    }

    private static void deadlocks() {
        Call last = b -> b.request(1, 0, 1);
        Look.Build near = SentenceTest::nearDeadlock;
        follows(30, "Tells whether a herd is deadlocked.", near, b -> b.isDeadlocked(0), false, last,
                true);
        follows(31, "Counts the deadlocked herds.", near, PastureBanker::deadlockedCount, 0, last, 2);
    }

    // ---- Promises 32 to 45

    private static void debts() {
        Call five = b -> b.lend(0, 1, 5);
        Look.Build tenAndThree = () -> {
            PastureBanker b = new PastureBanker();
            b.lend(3, 1, 10);
            b.lend(0, 2, 3);
            return b;
        };
        follows(32, "Returns the debt between two herds.", tenAndThree, b -> b.debt(1, 0), 0, five, 5);
        follows(33, "Returns the sum of the debts of a herd.", tenAndThree, b -> b.totalDebt(1), 10,
                five, 15);
        follows(34, "Returns the sum of the claims of a herd.", tenAndThree, b -> b.totalClaims(0), 3,
                five, 8);
    }

    private static void chains() {
        Call five = b -> b.lend(0, 1, 5);
        Look.Build fresh = PastureBanker::new;
        follows(35, "Returns the length of the shortest cycle that a new debt would close.", fresh,
                b -> b.closedCycleLength(0, 1), -1, five, 2);
        follows(36, "Returns the debt depth of a herd.", fresh, b -> b.debtDepth(1), 0, five, 1);
        follows(37, "Returns a herd of the settlement order.", fresh, b -> b.settlementOrder(0), 0,
                five, 1);
        follows(38, "Returns how much a herd could pay back if all debts to it were paid first, "
                + "transitively.", fresh, b -> b.transitiveClaims(0), 0, five, 5);
    }

    private static void counters() {
        follows(39, "Returns how many requests were granted at once since the latest setup.",
                () -> Check.loaded(States.setup(1, 2, 2, 1)), PastureBanker::immediateGrants, 0,
                b -> b.request(1, 0, 1), 1);
        follows(40, "Returns how many pending requests were granted from the queue since the "
                + "latest setup.", SentenceTest::waiting, PastureBanker::queuedGrants, 0,
                b -> b.release(1, 0, 2), 1);
        follows(41, "Returns how many requests were appended to the queue since the latest setup.",
                SentenceTest::held, PastureBanker::queuedRequests, 0, b -> b.request(2, 0, 2), 1);
        String withdrawn = "Returns how many pending requests were withdrawn since the latest "
                + "setup, by cancel() or finish().";
        Call count = PastureBanker::withdrawnRequests;
        follows(42, withdrawn, SentenceTest::waiting, count, 0, b -> b.cancel(2), 1);
        follows(42, withdrawn, SentenceTest::waiting, count, 0, b -> b.finish(2), 1);
        follows(42, withdrawn, SentenceTest::waiting, count, 0, b -> b.finish(1), 0);
    }

    private static void statistics() {
        follows(43, "Returns the utilization of a pasture.", PastureBanker::new,
                b -> b.utilization(1), 0.0f, b -> b.request(0, 1, 4), 0.8f);
        follows(44, "Returns the mean debt.", States::chain, PastureBanker::meanDebt, 4.0,
                b -> b.lend(7, 0, 20), 6.0);
        follows(45, "Checks the internal consistency of the state.", SentenceTest::waiting,
                PastureBanker::inconsistencies, 0, b -> b.finish(2), 0);
    }

    // ---- Promises 46 to 55, 59

    private static void request() {
        about(46, "Requests units of a pasture for a herd. The request is granted at once if it "
                + "can be granted; otherwise it is appended to the queue.");
        PastureBanker b = Check.loaded("rights;pasture a 3;pasture b 9;herd x 2 9;herd y 3 9;");
        due("one for x", true, () -> b.request(0, 0, 1));
        due("y would have the second, and then there is one for x", true, () -> b.request(1, 0, 1));
        due("y may not have the last one, which x needs", false, () -> b.request(1, 0, 1));
        due("x may", true, () -> b.request(0, 0, 1));
        due("b for x, though y waits", true, () -> b.request(0, 1, 9));
        due("all of it", "x:2,9 y:1,0?", () -> Check.output(b));
        due("queue", "1 ", () -> Look.queue(b));
    }

    private static void releaseAndFinish() {
        about(47, "Releases units of a pasture that a herd holds. Then the queue is processed.");
        PastureBanker released = waiting();
        due("one is too few", 0, () -> released.release(1, 0, 1));
        due("one is left", "a:0 b:1 c:0?", () -> Check.output(released));
        due("two are enough", 1, () -> released.release(1, 0, 1));
        due("none is left", "a:0 b:0 c:2", () -> Check.output(released));
        about(48, "Lets a herd finish: its pending request is withdrawn and all of its allocations "
                + "become 0. Then the queue is processed.");
        PastureBanker finished = waiting();
        finished.request(0, 0, 1);
        due("who waits alone lets nobody go on", 0, () -> finished.finish(0));
        due("it waits no more", "a:0 b:2 c:0?", () -> Check.output(finished));
        due("who holds all lets c go on", 1, () -> finished.finish(1));
        due("it holds none", "a:0 b:0 c:2", () -> Check.output(finished));
    }

    private static void otherChanges() {
        about(49, "Withdraws the pending request of a herd. Then the queue is processed.");
        PastureBanker cancelled = waiting();
        cancelled.request(0, 0, 1);
        due("nobody gets anything by it", 0, () -> cancelled.cancel(2));
        due("a waits, c does not", "a:0? b:2 c:0", () -> Check.output(cancelled));
        due("counters", "1 0 2 1", () -> Look.counters(cancelled));
        about(50, "Sets the capacity of a pasture, even if the resulting state is not safe. Then "
                + "the queue is processed.");
        PastureBanker resized = waiting();
        due("one more is too few", 0, () -> resized.setCapacity(0, 3));
        due("two more are enough", 1, () -> resized.setCapacity(0, 4));
        due("all is in use", "a:0 b:2 c:2", () -> Check.output(resized));
        about(51, "Sets the maximum claim of a herd on a pasture, even if the resulting state is "
                + "not safe. Then the queue is processed.");
        PastureBanker claimed = waiting();
        due("a claims too much", 0, () -> claimed.setMaximum(0, 0, 5));
        due("not safe", false, claimed::isSafe);
        due("so c gets nothing", 0, () -> claimed.setCapacity(0, 4));
        due("a claims all there is", 1, () -> claimed.setMaximum(0, 0, 4));
        due("all is in use", "a:0 b:2 c:2", () -> Check.output(claimed));
    }

    private static void coins() {
        about(52, "Records a loan, which increases the debt between two herds.");
        PastureBanker b = new PastureBanker();
        due("a new debt", 40, () -> b.lend(2, 3, 40));
        due("a greater one", 42, () -> b.lend(2, 3, 2));
        due("dot owes cid", "42 0", () -> b.debt(3, 2) + " " + b.debt(2, 3));
        about(53, "Records a repayment, which decreases the debt between two herds.");
        due("a smaller one", 2, () -> b.repay(3, 2, 40));
        due("dot owes cid", "2 0", () -> b.debt(3, 2) + " " + b.debt(2, 3));
        due("cid owes dot nothing", STATE, () -> b.repay(2, 3, 1));
        due("none", 0, () -> b.repay(3, 2, 2));
    }

    private static void runScript() {
        about(54, "Parses the input buffer as a script and empties the buffer, also if the text "
                + "has an error.");
        PastureBanker b = new PastureBanker();
        due("a script", "ran 2", () -> Check.script(b, "finish ann;finish bob;"));
        due("empty", 0, () -> Look.length(b));
        b.truncate(0);
        due("a setup is no script", "error 1 at 0", () -> Check.script(b, States.FIRST_SETUP));
        due("empty", 0, () -> Look.length(b));
        b.truncate(0);
        due("the whole buffer", "error 1 at 11",
                () -> Check.script(b, "finish ann;rights;pasture a 1;"));
    }

    private static void undo() {
        about(55, "Undoes the latest change that has not been undone.");
        PastureBanker b = new PastureBanker();
        for (int coins : new int[] {1, 2, 4, 8}) {
            b.lend(0, 1, coins);
        }
        due("the last", 3, b::undo);
        due("without 8", 7, () -> b.debt(1, 0));
        due("the one before", 2, b::undo);
        due("without 4", 3, () -> b.debt(1, 0));
        b.lend(0, 1, 16);
        due("the new one", 2, b::undo);
        due("without 16", 3, () -> b.debt(1, 0));
        due("not 4 again, but 2", 1, b::undo);
        due("without 2", 1, () -> b.debt(1, 0));
        due("the first", 0, b::undo);
        due("without 1", 0, () -> b.debt(1, 0));
        due("there is none", STATE, b::undo);
    }

    private static void outputByte() {
        about(59, "Returns a byte of the output text.");
        PastureBanker b = waiting();
        b.writeAllocations();
        due("the text", "a:0 b:2 c:0?", () -> Look.output(b));
        due("two units", (int) '2', () -> b.outputByte(6));
        due("a question mark", 63, () -> b.outputByte(11));
        due("a space", 32, () -> b.outputByte(3));
    }
}
