import java.util.ArrayList;
import java.util.List;

/** The boundary sentences of the document's section "Terms", a test for each. */
public final class TermsTest {
    private static final Class<?> INDEX = IndexOutOfBoundsException.class;
    private static final Class<?> ARGUMENT = IllegalArgumentException.class;
    private static final Class<?> STATE = IllegalStateException.class;

    public static void main(String[] args) {
        pasturesAndHerds();
        safeStates();
        requests();
        deadlocks();
        debts();
        texts();
        errors();
        undo();
        Check.finish("TermsTest");
    }

    private static void about(String sentence) {
        Sentences.aboutTerms(sentence);
    }

    private static void due(String what, Object want, Check.Call call) {
        Check.due(what, want, call);
    }

    private static void setup(String text, String want) {
        due("setup <" + text + ">", want, () -> Check.load(new PastureBanker(), text));
    }

    private static void script(String text, String want) {
        due("script <" + text + ">", want, () -> Check.script(new PastureBanker(), text));
    }

    /** The second part begins with the token in error. */
    private static void setupFails(int code, String before, String token) {
        setup(before + token, "error " + code + " at " + before.length());
    }

    private static void scriptFails(int code, String before, String token) {
        script(before + token, "error " + code + " at " + before.length());
    }

    // ---- pastures and herds

    private static void pasturesAndHerds() {
        counts();
        numbers();
        capacities();
        claims();
        allocations();
        available();
        nameLengths();
        nameLetters();
        distinctNames();
        sameNames();
        wordsAsNames();
        none();
    }

    private static String sizes(String setup) {
        PastureBanker b = Check.loaded(setup);
        return b.pastureCount() + " pastures, " + b.herdCount() + " herds";
    }

    private static void counts() {
        about("There are 1 to 5 pastures and 1 to 8 herds");
        setupFails(1, "rights;", "herd x 1;");
        due("least", "1 pastures, 1 herds", () -> sizes(States.setup(1, 1, 1, 1)));
        due("most", "5 pastures, 8 herds", () -> sizes(States.setup(5, 1, 8, 1)));
        due("wide", "5 pastures, 1 herds", () -> sizes(States.setup(5, 1, 1, 1)));
        due("high", "1 pastures, 8 herds", () -> sizes(States.setup(1, 1, 8, 1)));
        setup(States.setup(6, 1, 1, 1), "error 4 at 67");
        setupFails(1, "rights;pasture a 1;", "");
        setup(States.setup(1, 1, 9, 1), "error 4 at 91");
        setup(States.setup(5, 1, 9, 1), "error 4 at 203");
    }

    private static void numbers() {
        about("both numbered from 0 in the order of the setup text");
        PastureBanker b = Check.loaded(States.setup(5, 1, 8, 1));
        due("pasture 0", "a", () -> Look.pastureName(b, 0));
        due("pasture 1", "b", () -> Look.pastureName(b, 1));
        due("pasture 4", "e", () -> Look.pastureName(b, 4));
        due("pasture 5", INDEX, () -> b.capacity(5));
        due("pasture -1", INDEX, () -> b.capacity(-1));
        due("herd 0", "a", () -> Look.herdName(b, 0));
        due("herd 1", "b", () -> Look.herdName(b, 1));
        due("herd 7", "h", () -> Look.herdName(b, 7));
        due("herd 8", INDEX, () -> b.totalDebt(8));
        due("herd -1", INDEX, () -> b.totalDebt(-1));
    }

    private static void capacities() {
        about("a capacity (0 to 50 units)");
        for (int units : new int[] {0, 1, 49, 50}) {
            String text = "rights;pasture a " + units + ";herd x 0;";
            due("setup", units, () -> Check.loaded(text).capacity(0));
            PastureBanker b = new PastureBanker();
            due("setCapacity", 0, () -> b.setCapacity(2, units));
            due("capacity", units, () -> b.capacity(2));
        }
        setupFails(2, "rights;pasture a ", "51;herd x 0;");
        setupFails(2, "rights;pasture a ", "999;herd x 0;");
        setupFails(1, "rights;pasture a ", "-1;herd x 0;");
        setupFails(2, "rights;pasture a 50;pasture b ", "51;herd x 0 0;");
        due("-1", ARGUMENT, () -> new PastureBanker().setCapacity(2, -1));
        due("51", ARGUMENT, () -> new PastureBanker().setCapacity(2, 51));
    }

    private static void claims() {
        about("a maximum claim (0 to 50 units)");
        for (int units : new int[] {0, 1, 49, 50}) {
            String text = "rights;pasture a 50;pasture b 50;herd x 3 " + units + ";";
            due("setup", units, () -> Check.loaded(text).maximum(0, 1));
            PastureBanker b = new PastureBanker();
            due("setMaximum", 0, () -> b.setMaximum(4, 2, units));
            due("maximum", units, () -> b.maximum(4, 2));
        }
        setupFails(2, "rights;pasture a 50;herd x ", "51;");
        setupFails(2, "rights;pasture a 50;pasture b 50;herd x 50 ", "51;");
        setupFails(1, "rights;pasture a 50;herd x ", "-1;");
        due("-1", ARGUMENT, () -> new PastureBanker().setMaximum(4, 2, -1));
        due("51", ARGUMENT, () -> new PastureBanker().setMaximum(4, 2, 51));
    }

    private static void allocations() {
        about("an allocation (the units that it holds, never more than its maximum claim)");
        PastureBanker b = Check.loaded("rights;pasture a 50;herd x 50;herd y 3;");
        due("at first", 0, () -> b.allocation(0, 0));
        due("the whole claim of y", true, () -> b.request(1, 0, 3));
        due("one more", STATE, () -> b.request(1, 0, 1));
        due("y holds", 3, () -> b.allocation(1, 0));
        due("a claim below it", STATE, () -> b.setMaximum(1, 0, 2));
        due("a claim as high", 0, () -> b.setMaximum(1, 0, 3));
        due("the whole capacity but 3", true, () -> b.request(0, 0, 47));
        due("need of x", 3, () -> b.need(0, 0));
        due("need of y", 0, () -> b.need(1, 0));
    }

    private static void available() {
        about("The available units of a pasture are its capacity minus the allocations of all herds "
                + "on it.");
        PastureBanker b = Check.loaded(States.setup(1, 8, 8, 1));
        due("all", 8, () -> b.available(0));
        for (int herd = 0; herd < 8; herd++) {
            int h = herd;
            due("granted", true, () -> b.request(h, 0, 1));
            due("left", 7 - h, () -> b.available(0));
        }
        due("none can go", STATE, () -> b.setCapacity(0, 7));
        due("nothing changes", 0, () -> b.setCapacity(0, 8));
        due("none left", 0, () -> b.available(0));
    }

    private static void nameLengths() {
        about("A name consists of 1 to 6 letters a to z.");
        setup("rights;pasture a 1;herd z 1;", "loaded 1");
        setup("rights;pasture abcdef 1;herd uvwxyz 1;", "loaded 1");
        setupFails(3, "rights;pasture ", "abcdefg 1;herd x 1;");
        setupFails(3, "rights;pasture a 1;herd ", "abcdefg 1;");
        setupFails(1, "rights;pasture ", "1;herd x 1;");
        setupFails(1, "rights;pasture a 1;herd ", "1;");
        due("the last letter", "abcdef",
                () -> Look.herdName(Check.loaded("rights;pasture a 1;herd abcdef 1;"), 0));
    }

    /** A sign behind "pasture ": all but letters are refused, there or where the name is due. */
    private static void nameLetters() {
        about("letters a to z");
        for (int sign = 0; sign < 256; sign++) {
            boolean isLetter = sign >= 'a' && sign <= 'z';
            boolean isGap = sign == ' ' || sign == '\n';
            String want = isLetter ? "loaded 1" : "error 1 at " + (isGap ? 17 : 15);
            setup("rights;pasture " + (char) sign + " 9;herd x 9;", want);
            want = isLetter ? "loaded 1" : "error 1 at " + (isGap ? 26 : 24);
            setup("rights;pasture a 9;herd " + (char) sign + " 9;", want);
        }
    }

    private static void distinctNames() {
        about("Pasture names are distinct, and herd names are distinct.");
        setupFails(3, "rights;pasture a 1;pasture ", "a 1;herd x 1 1;");
        setupFails(3, "rights;pasture a 1;pasture b 1;pasture c 1;pasture d 1;pasture ",
                "a 1;herd x 1 1 1 1 1;");
        setupFails(3, "rights;pasture a 1;pasture b 1;pasture c 1;pasture d 1;pasture ",
                "d 1;herd x 1 1 1 1 1;");
        setupFails(3, "rights;pasture a 1;herd x 1;herd ", "x 1;");
        String seven = States.setup(1, 1, 7, 1);
        setupFails(3, seven + "herd ", "a 1;");
        setupFails(3, seven + "herd ", "g 1;");
        setup(seven + "herd h 1;", "loaded 8");
        setup("rights;pasture ab 1;pasture a 1;pasture abc 1;herd xy 1 1 1;herd x 1 1 1;"
                + "herd yx 1 1 1;herd xyy 1 1 1;herd xyx 1 1 1;", "loaded 5");
    }

    private static void sameNames() {
        about("A pasture and a herd may have the same name.");
        PastureBanker b = Check.loaded("rights;pasture x 9;pasture y 9;herd y 9 0;herd x 0 9;");
        due("herd y, pasture x", "ran 1", () -> Check.script(b, "request y x 5;"));
        due("it holds", 5, () -> b.allocation(0, 0));
        due("herd x, pasture y", "ran 2", () -> Check.script(b, "request x y 6;resize y 7;"));
        due("it holds", 6, () -> b.allocation(1, 1));
        due("capacities", "9 7", () -> b.capacity(0) + " " + b.capacity(1));
        Check.put(b, "x");
        due("the herd's number", 1, b::findHerd);
    }

    private static void wordsAsNames() {
        about("A word of the grammar can be a name wherever the grammar requires a name.");
        for (String word : new String[] {"rights", "herd", "finish", "cancel", "lend", "repay",
            "resize"}) {
            PastureBanker b = new PastureBanker();
            String name = word;
            String setup = "rights;pasture w 5;herd w 5;herd o 5;".replace("w", name);
            due(word, "loaded 2", () -> Check.load(b, setup));
            String script = ("request w w 1;release w w 1;finish w;lend w o 2;repay o w 1;"
                    + "resize w 9;cancel w;").replace("w", name);
            due(word, "ran 6", () -> Check.script(b, script));
            due("nine units", 9, () -> b.capacity(0));
            due("one coin", 1, () -> b.debt(1, 0));
        }
        for (String word : new String[] {"pasture", "request", "release"}) {
            setupFails(3, "rights;pasture ", word + " 5;herd x 5;");
            setupFails(3, "rights;pasture a 5;herd ", word + " 5;");
            scriptFails(3, "finish ", word + ";");
        }
        setup("rights;pasture rights 5;pasture herd 5;herd herd 5 5;herd rights 5 5;", "loaded 2");
    }

    private static void none() {
        about("`NONE = -1`");
        due("NONE", -1, () -> PastureBanker.NONE);
        PastureBanker b = new PastureBanker();
        due("no herd", -1, () -> b.queuedHerd(0));
        due("no pasture", -1, () -> b.requestedPasture(0));
        due("no number", -1, b::errorPosition);
    }

    // ---- safe states

    private static void safeStates() {
        about("A herd can finish with a given vector of free units if its remaining need on every "
                + "pasture is at most the free units of this pasture.");
        for (int pasture = 0; pasture < 5; pasture++) {
            PastureBanker b = Check.loaded(States.setup(5, 9, 2, 4));
            int p = pasture;
            b.setCapacity(p, 4);
            due("just enough", true, () -> b.canFinish(1));
            b.setCapacity(p, 3);
            due("one too few of pasture " + p, false, () -> b.canFinish(1));
            due("is not safe", false, b::isSafe);
            b.setMaximum(1, p, 3);
            due("a lower need", true, () -> b.canFinish(1));
            due("herd 0 still needs more", false, () -> b.canFinish(0));
        }
        about("each herd can finish with the available units plus the allocations of all herds in "
                + "front of it in this order");
        PastureBanker b = Check.loaded("rights;pasture a 4;herd x 4;herd y 2;");
        b.request(1, 0, 1);
        due("x needs all four, y comes first", "1 0", () -> b.safeOrder(0) + " " + b.safeOrder(1));
        b.setMaximum(0, 0, 5);
        due("one too few for x at last", false, b::isSafe);
        b.setCapacity(0, 5);
        due("just enough for x at last", true, b::isSafe);
        about("each step appends the lowest-numbered herd that is not in the order yet and can "
                + "finish.");
        due("all can", "0 1 2 3 4 5 6 7 ", () -> Look.safeOrder(Check.loaded(States.setup(1, 8, 8, 1))));
        // Of nine units each herd holds one, herd 7 needs one more, herd 6 two more and so on.
        PastureBanker down = Check.loaded("rights;pasture m 9;herd a 9;herd b 8;herd c 7;herd d 6;"
                + "herd e 5;herd f 4;herd g 3;herd h 2;");
        for (int herd = 7; herd >= 0; herd--) {
            down.request(herd, 0, 1);
        }
        due("from the last to the first", "7 6 5 4 3 2 1 0 ", () -> Look.safeOrder(down));
        PastureBanker later = Check.loaded("rights;pasture m 6;herd a 6;herd b 4;herd c 3;herd d 4;");
        later.request(2, 0, 2);
        later.request(0, 0, 1);
        due("c at first, then b before d, but a not before c", "2 1 0 3 ", () -> {
            later.request(1, 0, 1);
            return Look.safeOrder(later);
        });
    }

    // ---- requests

    private static void requests() {
        onePending();
        granted();
        appended();
        processed();
    }

    private static void onePending() {
        about("A herd may have at most one pending request, for a number of units of one pasture.");
        PastureBanker b = Check.loaded("rights;pasture a 1;pasture b 9;herd x 1 1;herd y 1 1;");
        b.request(0, 0, 1);
        due("no pending request", false, () -> b.isWaiting(1));
        due("a first one", false, () -> b.request(1, 0, 1));
        due("a second one", STATE, () -> b.request(1, 1, 1));
        due("the same once more", STATE, () -> b.request(1, 0, 1));
        due("the first one stays", "1 of 0",
                () -> b.requestedAmount(1) + " of " + b.requestedPasture(1));
        due("one in the queue", 1, b::queueLength);
        b.cancel(1);
        due("then another one", true, () -> b.request(1, 1, 1));
    }

    private static void granted() {
        about("A request can be granted if its amount is at most the available units of the "
                + "pasture, and the state that results from granting it is safe.");
        String setup = "rights;pasture a 4;herd x 1;herd y 4;";
        PastureBanker all = Check.loaded(setup);
        all.request(0, 0, 1);
        due("3 of 3", true, () -> all.request(1, 0, 3));
        PastureBanker more = Check.loaded(setup);
        more.request(0, 0, 1);
        due("4 of 3", false, () -> more.request(1, 0, 4));
        PastureBanker two = Check.loaded(States.setup(1, 2, 2, 2));
        two.request(0, 0, 1);
        due("both would need one of none", false, () -> two.request(1, 0, 1));
        PastureBanker three = Check.loaded(States.setup(1, 3, 2, 2));
        three.request(0, 0, 1);
        due("both need one of one", true, () -> three.request(1, 0, 1));
    }

    private static void appended() {
        about("A request that cannot be granted at once is appended to the queue, and the herd is "
                + "waiting.");
        PastureBanker b = Check.loaded(States.setup(1, 8, 8, 1));
        b.setCapacity(0, 0);
        due("an empty queue", "", () -> Look.queue(b));
        StringBuilder want = new StringBuilder();
        for (int herd = 7; herd >= 0; herd--) {
            int h = herd;
            want.append(herd).append(' ');
            due("waits not yet", false, () -> b.isWaiting(h));
            due("appended", false, () -> b.request(h, 0, 1));
            due("waits", true, () -> b.isWaiting(h));
            due("queue", want.toString(), () -> Look.queue(b));
        }
    }

    private static void processed() {
        about("the pending requests are visited from the front to the back, and each one that can "
                + "be granted is granted and removed from the queue.");
        PastureBanker b = Check.loaded(States.setup(1, 8, 8, 1));
        b.setCapacity(0, 0);
        for (int herd = 7; herd >= 0; herd--) {
            b.request(herd, 0, 1);
        }
        due("no units", 0, () -> b.setCapacity(0, 0));
        due("one unit for the front", 1, () -> b.setCapacity(0, 1));
        due("without herd 7", "6 5 4 3 2 1 0 ", () -> Look.queue(b));
        due("herd 7 holds it", 1, () -> b.allocation(7, 0));
        due("all others at once", 7, () -> b.setCapacity(0, 8));
        due("an empty queue", "", () -> Look.queue(b));
        due("an empty queue grants nothing", 0, () -> b.setCapacity(0, 9));
        PastureBanker gap = Check.loaded("rights;pasture a 4;herd w 4;herd x 2;herd y 4;herd z 1;");
        gap.request(0, 0, 4);
        gap.request(1, 0, 2);
        gap.request(2, 0, 4);
        gap.request(3, 0, 1);
        due("three wait", "1 2 3 ", () -> Look.queue(gap));
        due("the middle one has too few units", 2, () -> gap.release(0, 0, 3));
        due("the middle one is left", "2 ", () -> Look.queue(gap));
        about("This is repeated from the front until a visit of the whole queue grants nothing.");
        due("nothing more for y", 0, () -> gap.finish(0));
        due("y at last", 1, () -> {
            gap.finish(1);
            return gap.finish(3);
        });
        due("an empty queue", 0, gap::queueLength);
    }

    // ---- deadlocks

    /** No state of these is safe, as y can never finish: so nothing is granted to x or z. */
    private static PastureBanker unsafe(int capacity, int held) {
        PastureBanker b = Check.loaded("rights;pasture a 9;pasture b 1;herd x 3 0;herd y 9 0;"
                + "herd z 9 0;");
        if (held > 0) {
            b.request(1, 0, held);
        }
        b.setMaximum(1, 1, 2);
        b.setCapacity(0, capacity);
        b.request(0, 0, 3);
        return b;
    }

    /**
     * Of nine units each of eight herds holds one. Herd 7 does not wait; herds 6, 5 .. 0 wait for
     * all units that are free when those behind them are picked, 2, 3 .. 8, the first ones (as many
     * as are told) for one more. Nothing is granted, as herd 7 can never finish on pasture b.
     */
    private static PastureBanker descending(int tooMuch) {
        PastureBanker b = Check.loaded(States.setup(2, 9, 8, 1));
        for (int herd = 0; herd < 8; herd++) {
            b.request(herd, 0, 1);
        }
        b.setMaximum(7, 1, 10);
        for (int herd = 6; herd >= 0; herd--) {
            b.setMaximum(herd, 0, 50);
            b.request(herd, 0, 8 - herd + (herd < tooMuch ? 1 : 0));
        }
        return b;
    }

    private static void deadlocks() {
        about("waiting for an amount that is at most the free units of its pasture");
        due("3 of 3", false, () -> unsafe(3, 0).isDeadlocked(0));
        due("3 of 2", true, () -> unsafe(2, 0).isDeadlocked(0));
        due("3 of 0", true, () -> unsafe(0, 0).isDeadlocked(0));
        about("the allocations of a picked herd are added to the free units.");
        due("3 of 2 and 1", false, () -> unsafe(3, 1).isDeadlocked(0));
        due("3 of 1 and 1", true, () -> unsafe(2, 1).isDeadlocked(0));
        due("3 of 0 and 3", false, () -> unsafe(3, 3).isDeadlocked(0));
        for (int stuck = 0; stuck <= 7; stuck++) {
            int want = stuck;
            due("one unit too few for so many", want, () -> descending(want).deadlockedCount());
            for (int herd = 0; herd < 8; herd++) {
                int h = herd;
                due("herd " + h + " of " + want, h < want, () -> descending(want).isDeadlocked(h));
            }
        }
        PastureBanker asked = descending(3);
        due("other questions", false, () -> asked.isSafe() || asked.canFinish(0));
        due("leave the answer", 3, asked::deadlockedCount);
        due("as it was", 3, asked::deadlockedCount);
        about("A herd is deadlocked if it can never be picked in this way.");
        due("nobody waits", 0, () -> new PastureBanker().deadlockedCount());
        due("one", 1, () -> unsafe(2, 0).deadlockedCount());
        due("none", 0, () -> unsafe(3, 0).deadlockedCount());
        due("all", 8, () -> States.full().deadlockedCount());
        about("A waiting herd waits for another herd if the amount of its request exceeds the "
                + "available units of the requested pasture, and the other herd holds at least one "
                + "unit of this pasture.");
        due("3 of 3, y holds 1", false, () -> unsafe(4, 1).waitsFor(0, 1));
        due("3 of 8, y holds 1", false, () -> unsafe(9, 1).waitsFor(0, 1));
        due("3 of 2, y holds 1", true, () -> unsafe(3, 1).waitsFor(0, 1));
        due("3 of 0, y holds 9", true, () -> unsafe(9, 9).waitsFor(0, 1));
        due("3 of 2, y holds 0", false, () -> unsafe(2, 0).waitsFor(0, 1));
        due("z holds 0", false, () -> unsafe(3, 1).waitsFor(0, 2));
        due("y does not wait", false, () -> unsafe(3, 1).waitsFor(1, 0));
        PastureBanker other = unsafe(3, 1);
        other.setMaximum(2, 1, 1);
        due("z waits for b, y holds a", false, () -> other.request(2, 1, 1));
        due("there is enough of b", false, () -> other.waitsFor(2, 1));
    }

    // ---- debts

    private static void debts() {
        about("A herd may owe another herd a debt of 1 to 999 coins.");
        PastureBanker b = new PastureBanker();
        due("0", ARGUMENT, () -> b.lend(0, 1, 0));
        due("1", 1, () -> b.lend(0, 1, 1));
        due("999", 999, () -> b.lend(0, 1, 998));
        due("1000", STATE, () -> b.lend(0, 1, 1));
        due("still 999", 999, () -> b.debt(1, 0));
        due("back to 1", 1, () -> b.repay(1, 0, 998));
        due("back to 0", 0, () -> b.repay(1, 0, 1));
        due("below 0", STATE, () -> b.repay(1, 0, 1));
        about("Debts never form a cycle");
        for (int last = 0; last < 8; last++) {
            PastureBanker chain = Check.loaded(States.setup(1, 0, 8, 0));
            for (int herd = 0; herd < last; herd++) {
                chain.lend(herd + 1, herd, 1);
            }
            int end = last;
            due("a cycle of " + (last + 1), STATE, () -> chain.lend(0, end, 1));
            due("no debt of it", 0, () -> chain.debt(end, 0));
        }
        PastureBanker chain = States.chain();
        chain.repay(3, 4, 4);
        due("a cycle that is open in the middle", 9, () -> chain.lend(0, 7, 9));
        due("it is closed no more", STATE, () -> chain.lend(4, 3, 4));
        about("The debt depth of a herd is the greatest number of debts along a chain that starts "
                + "with a debt of this herd and in which each creditor is the debtor of the next "
                + "debt; it is 0 for a herd without debts.");
        due("no debts at all", 0, () -> new PastureBanker().debtDepth(0));
        for (int herd = 0; herd < 8; herd++) {
            int h = herd;
            due("in a chain", 7 - herd, () -> States.chain().debtDepth(h));
        }
        PastureBanker both = States.chain();
        both.lend(7, 0, 999);
        due("the longer way", 7, () -> both.debtDepth(0));
        due("a creditor only", 0, () -> both.debtDepth(7));
    }

    // ---- texts

    private static void texts() {
        buffer();
        words();
        literalWords();
        wordLengths();
        numberLengths();
        separators();
        repetitions();
        claimsOfHerds();
        commands();
    }

    private static void buffer() {
        about("The input buffer holds at most 600 bytes. It is empty at first.");
        PastureBanker b = new PastureBanker();
        due("empty", ARGUMENT, () -> b.truncate(1));
        for (int length = 20; length <= 600; length += 20) {
            due("append", length, () -> b.append(0x20202020, 0x20202020, 0x20202020, 0x20202020,
                    0x20202020));
        }
        due("601", STATE, () -> b.append(0, 0, 0, 0, 0));
        due("600 bytes", 600, () -> b.truncate(600));
        due("of spaces", 0, b::runScript);
        due("empty again", 20, () -> b.append(0, 0, 0, 0, 0));
        String setup = "rights;pasture a 1;herd x 1;";
        setup(" ".repeat(572) + setup, "loaded 1");
        setup(setup + " ".repeat(572), "loaded 1");
        script(" ".repeat(589) + "finish ann;", "ran 1");
    }

    /** A sign between a name and the semicolon, and one between a number and the semicolon. */
    private static void words() {
        about("A word is a maximal run of the letters a to z. A number is a maximal run of decimal "
                + "digits.");
        for (int sign = 0; sign < 256; sign++) {
            boolean isLetter = sign >= 'a' && sign <= 'z';
            boolean isDigit = sign >= '0' && sign <= '9';
            String behindName = isGap(sign) ? "ran 1" : isLetter ? "error 3 at 7"
                    : "error 1 at " + (sign == ';' ? 11 : 10);
            script("finish ann" + (char) sign + ";", behindName);
            // The digit makes the number 50 to 59, of which only 50 is a capacity.
            String behindNumber = isGap(sign) || sign == '0' ? "ran 1" : isDigit ? "ran 0"
                    : "error 1 at " + (sign == ';' ? 13 : 12);
            script("resize fen 5" + (char) sign + ";", behindNumber);
            script("" + (char) sign, isGap(sign) ? "ran 0" : "error 1 at 0");
            script("finish ann;" + (char) sign, isGap(sign) ? "ran 1" : "error 1 at 11");
        }
    }

    /** Another letter anywhere in it, one less or one more: then it is not this word any more. */
    private static void literalWords() {
        about("The grammar is as follows, with literal words in quotes");
        for (String word : new String[] {"request ann fen 1;", "release ann fen 1;", "finish ann;",
            "cancel ann;", "lend ann bob 1;", "repay ann bob 1;", "resize fen 1;"}) {
            due(word, true, () -> Check.script(new PastureBanker(), word).startsWith("ran"));
            for (String other : others(word)) {
                script(other, "error 1 at 0");
            }
        }
        for (String other : others("rights;pasture a 9;herd x 9;")) {
            setup(other, "error 1 at 0");
        }
        for (String other : others("pasture a 9;herd x 9;")) {
            setup("rights;" + other, "error 1 at 7");
        }
        for (String other : others("pasture b 9;herd x 9 9;")) {
            setup("rights;pasture a 9;" + other, "error 1 at 19");
        }
        for (String other : others("herd x 9;")) {
            setup("rights;pasture a 9;" + other, "error 1 at 19");
            setup("rights;pasture a 9;herd y 9;" + other, "error 1 at 28");
        }
    }

    /** The text with its first word changed in each of its letters, shortened and lengthened. */
    private static List<String> others(String text) {
        List<String> others = new ArrayList<>();
        int length = text.replaceAll("[^a-z].*", "").length();
        for (int index = 0; index < length; index++) {
            char other = text.charAt(index) == 'z' ? 'a' : (char) (text.charAt(index) + 1);
            others.add(text.substring(0, index) + other + text.substring(index + 1));
        }
        others.add(text.substring(1));
        others.add(text.substring(0, length - 1) + text.substring(length));
        others.add(text.substring(0, length) + 's' + text.substring(length));
        others.add('a' + text);
        return others;
    }

    private static boolean isGap(int sign) {
        return sign == 32 || sign == 10;
    }

    private static void wordLengths() {
        about("A word of more than 8 letters, a number of more than 3 digits and any other byte are "
                + "invalid tokens.");
        setupFails(3, "rights;pasture ", "abcdefgh 9;");
        setupFails(1, "rights;pasture ", "abcdefghi 9;");
        setupFails(3, "rights;pasture a 9;herd ", "abcdefgh 9;");
        setupFails(1, "rights;pasture a 9;herd ", "abcdefghi 9;");
        scriptFails(3, "finish ", "abcdefgh;");
        scriptFails(1, "finish ", "abcdefghi;");
        scriptFails(3, "resize ", "abcdefgh 5;");
        scriptFails(1, "resize ", "abcdefghi 5;");
        scriptFails(1, "finish ", "z".repeat(593));
    }

    private static void numberLengths() {
        about("a number of more than 3 digits");
        setupFails(2, "rights;pasture a ", "999;");
        setupFails(1, "rights;pasture a ", "1000;");
        setup("rights;pasture a 050;herd x 050;", "loaded 1");
        setup("rights;pasture a 000;herd x 000;", "loaded 1");
        setupFails(1, "rights;pasture a ", "0050;");
        setupFails(2, "rights;pasture a 9;herd x ", "999;");
        setupFails(1, "rights;pasture a 9;herd x ", "1000;");
        setupFails(1, "rights;pasture a 9;herd x ", "0000;");
        script("resize fen 999;", "ran 0");
        scriptFails(1, "resize fen ", "1000;");
        script("resize fen 005;", "ran 1");
        scriptFails(1, "resize fen ", "0005;");
        script("lend ann bob 999;", "ran 1");
        scriptFails(1, "lend ann bob ", "1000;");
        // As an int this is 5, and with only its last three digits it is 5 too.
        scriptFails(1, "resize fen ", "4294967301;");
        scriptFails(1, "resize fen ", "1005;");
        scriptFails(1, "resize fen ", "0".repeat(589));
    }

    private static void separators() {
        about("Spaces (byte 32) and line feeds (byte 10) separate tokens and have no other meaning.");
        script("finish ann;finish bob;", "ran 2");
        script(" \n finish\n\n  ann \n ; finish\nbob\n;\n ", "ran 2");
        script("lend ann bob9;", "ran 1");
        script("lend ann bob\n9\n;", "ran 1");
        scriptFails(3, "lend ", "annbob 9;");
        scriptFails(3, "finish ", "an n;");
        scriptFails(1, "resize fen 5 ", "0;");
        scriptFails(1, "resize fen 5\n", "0;");
        setup("rights;pasture a9;pasture b8;herd x9 8;herd y0 0;", "loaded 2");
        setup("\nrights ; pasture a 9\n; herd x 9 ;\n", "loaded 1");
        for (int sign : new int[] {0, 9, 11, 12, 13, 31, 33, 127, 160, 255}) {
            scriptFails(1, "finish ann;", (char) sign + "finish bob;");
            setupFails(1, "rights;", (char) sign + "pasture a 9;herd x 9;");
        }
    }

    private static void repetitions() {
        about("script = { command \";\" }");
        script("", "ran 0");
        script("finish ann;", "ran 1");
        script("finish ann;finish ann;", "ran 2");
        scriptFails(1, "finish ann", "");
        scriptFails(1, "finish ann;finish ann", "");
        scriptFails(1, "", ";");
        about("setup = \"rights\" \";\" \"pasture\" name capacity \";\" { \"pasture\" name capacity "
                + "\";\" } herd \";\" { herd \";\" }");
        setupFails(1, "", "");
        setupFails(1, "rights;", "");
        setupFails(1, "rights;pasture a 9;", "");
        setup("rights;pasture a 9;herd x 9;", "loaded 1");
        setup("rights;pasture a 9;pasture b 9;herd x 9 9;herd y 9 9;", "loaded 2");
        setupFails(1, "rights;pasture a 9;herd x 9", "");
        setupFails(1, "rights;pasture a 9;herd x 9;", "pasture b 9;");
        setupFails(1, "rights;pasture a 9;herd x 9;", ";");
        setupFails(1, "rights;pasture a 9;herd x 9;", "rights;");
    }

    private static void claimsOfHerds() {
        about("A herd has one maximum claim for each pasture, in the order of the pastures.");
        for (int count = 1; count <= 5; count++) {
            String herd = States.setup(count, 9, 0, 0) + "herd x" + " 3".repeat(count);
            setup(herd + ";", "loaded 1");
            setupFails(1, herd, "");
            setupFails(1, herd + " ", "3;");
            setupFails(1, herd + " ", "10;");
            String oneLess = herd.substring(0, herd.length() - 2);
            setupFails(1, oneLess, ";");
            setupFails(1, oneLess + " ", "herd y 3;");
        }
        PastureBanker b = Check.loaded("rights;pasture a 9;pasture b 9;pasture c 9;pasture d 9;"
                + "pasture e 9;herd x 1 2 3 4 5;");
        for (int pasture = 0; pasture < 5; pasture++) {
            int p = pasture;
            due("claim", p + 1, () -> b.maximum(0, p));
        }
    }

    /** Each command alone, for the first and for the last herd and pasture. */
    private static void commands() {
        about("The commands call the methods request, release, finish, cancel, lend (first the "
                + "creditor, then the debtor), repay (first the debtor, then the creditor) and "
                + "setCapacity.");
        likeMethod("request eve ridge 3;", b -> b.request(4, 2, 3));
        likeMethod("request ann hill 7;", b -> b.request(0, 0, 7));
        likeMethod("request ann fen 4;", b -> b.request(0, 1, 4));
        likeMethod("release dot ridge 1;", b -> b.release(3, 2, 1));
        likeMethod("release cid hill 2;", b -> b.release(2, 0, 2));
        likeMethod("finish dot;", b -> b.finish(3));
        likeMethod("finish eve;", b -> b.finish(4));
        likeMethod("finish ann;", b -> b.finish(0));
        likeMethod("cancel ann;", b -> b.cancel(0));
        likeMethod("cancel eve;", b -> b.cancel(4));
        likeMethod("lend eve ann 999;", b -> b.lend(4, 0, 999));
        likeMethod("lend bob ann 1;", b -> b.lend(1, 0, 1));
        likeMethod("repay ann bob 10;", b -> b.repay(0, 1, 10));
        likeMethod("repay dot eve 1;", b -> b.repay(3, 4, 1));
        likeMethod("resize hill 50;", b -> b.setCapacity(0, 50));
        likeMethod("resize ridge 5;", b -> b.setCapacity(2, 5));
    }

    private interface Change {
        Object run(PastureBanker b);
    }

    /** After the script the state is as after the call, even if that would throw. */
    private static void likeMethod(String script, Change call) {
        PastureBanker called = States.busy();
        boolean done = true;
        try {
            call.run(called);
        } catch (IllegalStateException e) {
            done = false;
        }
        String want = (done ? "ran 1, " : "ran 0, ") + Look.state(called);
        due(script, want, () -> {
            PastureBanker b = States.busy();
            b.truncate(0);
            return Check.script(b, script) + ", " + Look.state(b);
        });
    }

    // ---- errors

    private static void errors() {
        places();
        position();
        lowestCode();
        codes();
        scripts();
    }

    /** Each token cut off, and each replaced by tokens of the other kinds. */
    private static void places() {
        about("a token that the grammar does not allow at this place");
        places("rights ; pasture a 9 ; pasture b 8 ; herd x 9 8 ; herd y 7 6 ;", true);
        places("rights ; pasture a 9 ; herd x 9 ; herd y 7 ;", true);
        for (String command : new String[] {"request ann hill 1 ;", "release ann hill 1 ;",
            "finish ann ;", "cancel ann ;", "lend ann bob 1 ;", "repay ann bob 1 ;",
            "resize hill 1 ;"}) {
            places(command, false);
            places("finish bob ; " + command, false);
        }
    }

    private static void places(String text, boolean isSetup) {
        String[] tokens = text.split(" ");
        String before = "";
        for (String token : tokens) {
            boolean isWord = Character.isLetter(token.charAt(0));
            boolean isNumber = Character.isDigit(token.charAt(0));
            boolean mayEnd = before.isEmpty() || before.endsWith("; ");
            // A setup may end behind a herd only, a script behind each command.
            boolean isEnd = mayEnd && (!isSetup || before.contains("herd"));
            notAllowed(before, isWord || isNumber ? ";" : "7", isSetup);
            notAllowed(before, isWord ? "7" : "q", isSetup);
            notAllowed(before, "$", isSetup);
            if (!isEnd) {
                notAllowed(before, "", isSetup);
            }
            before += token + " ";
        }
    }

    private static void notAllowed(String before, String token, boolean isSetup) {
        if (isSetup) {
            setupFails(1, before, token);
            setupFails(1, before, token + "$");
        } else {
            scriptFails(1, before, token);
            scriptFails(1, before, token + "$");
        }
    }

    private static void position() {
        about("The first token with an error determines the error code and the error position.");
        setupFails(2, "rights;pasture a ", "51;pasture abcdefg 9;");
        setupFails(3, "rights;pasture ", "abcdefg 51;");
        setupFails(3, "rights;pasture a 9;pasture ", "a 51;$");
        setupFails(2, "rights;pasture a 9;herd x ", "10 $");
        scriptFails(3, "finish ", "zoe;graze;");
        scriptFails(1, "", "graze zoe;");
        about("The error position is the index of the first byte of this token, or the length of the "
                + "text if the text ends too early.");
        scriptFails(1, "", "$");
        scriptFails(1, " ".repeat(599), "$");
        scriptFails(1, " ".repeat(593) + "finish ", "");
        scriptFails(1, "finish ann" + " ".repeat(590), "");
        scriptFails(1, "finish ann \n ", "");
        setupFails(1, "", "");
        setupFails(1, "   ", "");
        setupFails(1, "rights;" + "\n".repeat(593), "");
        setupFails(1, "rights;pasture a 9;herd x 9;" + " ".repeat(571), "h");
        scriptFails(1, "finish ann;finish ", "abcdefghijk;");
        scriptFails(1, "resize fen ", "12345;");
    }

    private static void lowestCode() {
        about("If several errors apply to the same token, the lowest code is reported");
        String fine = "rights;pasture a 9;herd x 9";
        setupFails(1, fine + " ", "51;");
        setupFails(1, "rights;pasture a ", "1000;");
        setupFails(1, "rights;pasture ", "abcdefghi 9;");
        scriptFails(1, "finish ", "abcdefghi;");
        setupFails(1, States.setup(5, 9, 1, 9), "pasture f 9;");
        setupFails(1, States.setup(5, 9, 8, 9), "pasture f 9;");
        setupFails(1, States.setup(5, 9, 8, 9), "herdsmann");
        setupFails(1, States.setup(5, 9, 0, 9), "pasturesa");
        scriptFails(1, "finish ann;".repeat(30), "graze ann;");
        scriptFails(1, "finish ann;".repeat(30), "finishing");
        scriptFails(1, "finish ann;".repeat(30), ";");
        scriptFails(1, "finish ann;".repeat(30), "31;");
        scriptFails(1, "finish ann;".repeat(30), "$");
    }

    private static void codes() {
        about("code 1: an invalid token, a token that the grammar does not allow at this place (this "
                + "includes a missing and an excess maximum claim), or an unexpected end of the "
                + "text;");
        setupFails(1, "rights;pasture a 9;", "Herd x 9;");
        setupFails(1, "rights;pasture a 9;", "x 9;");
        setupFails(1, "rights;pasture a 9;pasture b 9;herd x 9", ";");
        setupFails(1, "rights;pasture a 9;pasture b 9;herd x 9 9 ", "9;");
        setupFails(1, "rights;pasture a 9;pasture b 9;herd x 9 9", "");
        about("code 2: a capacity or a maximum claim that is out of range in a setup text, including "
                + "a maximum claim that exceeds the capacity of its pasture");
        setup("rights;pasture a 50;pasture b 0;herd x 50 0;", "loaded 1");
        setup("rights;pasture a 7;pasture b 8;herd x 7 8;herd y 7 8;", "loaded 2");
        setupFails(2, "rights;pasture a 7;pasture b 8;herd x ", "8 8;");
        setupFails(2, "rights;pasture a 7;pasture b 8;herd x 7 ", "9;");
        setupFails(2, "rights;pasture a 8;pasture b 7;herd x 7 7;herd y 8 ", "8;");
        setupFails(2, "rights;pasture a 0;herd x ", "1;");
        setupFails(2, "rights;pasture a 50;herd x ", "51;");
        setupFails(2, "rights;pasture a ", "51;");
        about("numbers in a script are not checked by the parser");
        for (String script : new String[] {"request ann hill 0;", "request ann hill 51;",
            "request ann hill 999;", "release ann hill 000;", "lend ann bob 0;",
            "repay ann bob 999;", "resize hill 51;", "resize hill 999;"}) {
            script(script, "ran 0");
        }
        about("code 3: a name of more than 6 letters, a new name that another pasture or herd of the "
                + "same kind already has, or a name that no pasture or no herd has where an existing "
                + "one is expected;");
        setupFails(3, "rights;pasture ", "abcdefg 9;");
        setupFails(3, "rights;pasture a 9;pasture ", "a 9;");
        setupFails(3, "rights;pasture a 9;herd x 9;herd ", "x 9;");
        scriptFails(3, "finish ", "abcdefg;");
        scriptFails(3, "finish ", "hill;");
        scriptFails(3, "cancel ", "an;");
        scriptFails(3, "resize ", "ann 5;");
        scriptFails(3, "request ann ", "hil 5;");
        scriptFails(3, "release ", "anna hill 5;");
        scriptFails(3, "lend ann ", "fen 5;");
        scriptFails(3, "repay ", "fen ann 5;");
        tooMany();
    }

    private static void tooMany() {
        about("code 4: the word \"pasture\" of a 6th pasture, the word \"herd\" of a 9th herd, or the "
                + "first word of a 31st command.");
        String five = States.setup(5, 9, 0, 9);
        setup(five + "herd x 9 9 9 9 9;", "loaded 1");
        setupFails(4, five, "pasture f 9;herd x 9 9 9 9 9 9;");
        setupFails(4, five, "pasture");
        setupFails(4, five, "pasture a 51;");
        String eight = States.setup(2, 9, 8, 9);
        setup(eight, "loaded 8");
        setupFails(4, eight, "herd i 9 9;");
        setupFails(4, eight, "herd");
        setupFails(4, eight, "herd a $");
        String thirty = "finish ann;".repeat(30);
        script(thirty, "ran 30");
        script(thirty + " \n", "ran 30");
        for (String word : new String[] {"request", "release", "finish", "cancel", "lend", "repay",
            "resize"}) {
            scriptFails(4, thirty, word);
            scriptFails(4, thirty + " ", word + " zoe $");
        }
        scriptFails(3, "finish ann;".repeat(29) + "finish ", "zoe;finish ann;");
        scriptFails(1, "finish ann;".repeat(29) + "finish ann ", "finish ann;");
    }

    private static void scripts() {
        about("Execution stops at the first command whose method would throw an exception; this "
                + "command and all later ones are not executed.");
        String fine = "lend ann bob 1;";
        for (int at : new int[] {0, 1, 28, 29}) {
            PastureBanker b = new PastureBanker();
            String text = fine.repeat(at) + "cancel ann;" + fine.repeat(29 - at);
            due("stops at " + at, "ran " + at, () -> Check.script(b, text));
            due("coins", at, () -> b.debt(1, 0));
            due("withdrawn", 0, b::withdrawnRequests);
            due("one change", 0, b::undo);
            due("coins", 0, () -> b.debt(1, 0));
        }
        PastureBanker b = new PastureBanker();
        due("all 30", "ran 30", () -> Check.script(b, fine.repeat(30)));
        due("coins", 30, () -> b.debt(1, 0));
    }

    // ---- undo

    private static void undo() {
        about("The latest 6 changes can be undone.");
        for (int changes = 0; changes <= 8; changes++) {
            PastureBanker b = new PastureBanker();
            for (int change = 0; change < changes; change++) {
                b.lend(0, 1, 1);
            }
            int kept = Math.min(changes, 6);
            for (int left = kept - 1; left >= 0; left--) {
                due("undo one of " + changes, left, b::undo);
            }
            due("one more than " + kept, STATE, b::undo);
            int coins = changes - kept;
            due("coins", coins, () -> b.debt(1, 0));
        }
        aroundTheHistory();
        kinds();
        outsideTheState();
    }

    /** Undone changes make room: after any steps back there are never more than six. */
    private static void aroundTheHistory() {
        for (int back = 0; back <= 6; back++) {
            PastureBanker b = new PastureBanker();
            for (int change = 0; change < 9; change++) {
                b.lend(0, 1, 1);
            }
            for (int step = 0; step < back; step++) {
                b.undo();
            }
            for (int change = 0; change < 4; change++) {
                b.lend(0, 1, 10);
            }
            int want = Math.min(6 - back + 4, 6);
            int coins = 49 - back - 4 * 10;
            due("40 more coins", coins + 40, () -> b.debt(1, 0));
            for (int left = want - 1; left >= 0; left--) {
                due("undo after " + back, left, b::undo);
            }
            due("none after " + back, STATE, b::undo);
            int last = coins - (want - 4);
            due("coins after " + back, last, () -> b.debt(1, 0));
        }
    }

    /** Each kind of change, as the only one since the state was restored. */
    private static void kinds() {
        about("The methods in the section \"changes\" are changes if they do not throw an exception.");
        Change[] changes = {b -> b.request(1, 0, 1), b -> b.request(2, 0, 6),
            b -> b.release(2, 0, 3), b -> b.finish(3), b -> b.finish(0), b -> b.cancel(4),
            b -> b.setCapacity(0, 50), b -> b.setMaximum(0, 0, 50), b -> b.lend(1, 0, 1),
            b -> b.repay(0, 1, 10), PastureBanker::runScript,
            b -> Check.run(b, "finish ann;finish eve;"), b -> Check.run(b, "cancel bob;"),
            // Nothing is different after these, and yet they are changes.
            b -> b.setCapacity(1, 5), b -> b.setMaximum(0, 0, 7), b -> b.finish(3)};
        for (int kind = 0; kind < changes.length; kind++) {
            PastureBanker b = States.busy();
            b.truncate(0);
            b.save(0);
            b.restore(0);
            Change change = changes[kind];
            due("none at first", STATE, b::undo);
            due("change " + kind, false, () -> change.run(b) == null);
            due("change " + kind, 0, b::undo);
            due("is undone", Look.state(States.busy()), () -> Look.state(b));
            due("was the only one", STATE, b::undo);
        }
        PastureBanker refused = new PastureBanker();
        due("what throws", STATE, () -> refused.lend(0, 0, 1));
        due("is no change", STATE, refused::undo);
    }

    private static void outsideTheState() {
        about("Undoing, saving and restoring affect the whole state, including all counters, except "
                + "the input buffer, the error code, the error position, the output text and the "
                + "saved states.");
        Look.Build undone = () -> {
            PastureBanker b = States.busy();
            b.undo();
            b.undo();
            return b;
        };
        due("undo leaves the output", Look.output(States.busy()), () -> Look.output(undone.make()));
        due("undo leaves the codes", "error 3 at 7", () -> Check.codes(undone.make()));
        due("undo leaves the buffer", 26, () -> Look.length(undone.make()));
        due("undo leaves slot 0", STATE, () -> undone.make().restore(0));
        due("undo leaves slot 1", 0, () -> undone.make().restore(1));
        due("undo brings the queue back", "0 ", () -> Look.queue(undone.make()));
        due("undo brings the counters back", 1, () -> undone.make().queuedRequests());
        Look.Build restored = () -> {
            PastureBanker b = States.busy();
            b.restore(1);
            return b;
        };
        due("restore leaves the output", Look.output(States.busy()),
                () -> Look.output(restored.make()));
        due("restore leaves the codes", "error 3 at 7", () -> Check.codes(restored.make()));
        due("restore leaves the buffer", 26, () -> Look.length(restored.make()));
        due("restore leaves slot 0", STATE, () -> restored.make().restore(0));
        due("restore leaves slot 1", 0, () -> restored.make().restore(1));
        due("restore brings the queue back", "", () -> Look.queue(restored.make()));
        due("restore brings the counters back", 0, () -> restored.make().queuedRequests());
        savesLeave();
        otherRequest();
    }

    /** A herd that waits for another amount of another pasture waits again as it did before. */
    private static void otherRequest() {
        PastureBanker b = States.full();
        String before = Look.state(States.full());
        b.save(0);
        for (int time = 0; time < 2; time++) {
            b.cancel(7);
            b.setMaximum(7, 0, 50);
            b.request(7, 0, 49);
            due("wants another one", "49 of 0",
                    () -> b.requestedAmount(7) + " of " + b.requestedPasture(7));
            if (time == 0) {
                b.undo();
                b.undo();
                b.undo();
            } else {
                b.restore(0);
            }
            due("wants as before", "8 of 4",
                    () -> b.requestedAmount(7) + " of " + b.requestedPasture(7));
        }
        due("all is as before", before, () -> Look.state(b));
    }

    private static void savesLeave() {
        Look.Build saved = () -> {
            PastureBanker b = States.busy();
            b.save(0);
            return b;
        };
        due("save leaves the input", Look.input(States::busy), () -> Look.input(saved));
        due("save leaves the state", Look.state(States.busy()), () -> Look.state(saved.make()));
        due("save leaves the output", Look.output(States.busy()), () -> Look.output(saved.make()));
        due("save leaves the changes", 5, () -> saved.make().undo());
        due("save leaves the other slot", 0, () -> saved.make().restore(1));
    }
}
