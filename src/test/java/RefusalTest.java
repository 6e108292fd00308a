import java.util.NoSuchElementException;

/**
 * For each "Throws" sentence of the document: the last values inside, the first ones outside, and
 * that a refused call throws the exception that is due and changes nothing that can be seen.
 */
public final class RefusalTest {
    private static final Class<?> INDEX = IndexOutOfBoundsException.class;
    private static final Class<?> ARGUMENT = IllegalArgumentException.class;
    private static final Class<?> STATE = IllegalStateException.class;
    private static final int LEAST = Integer.MIN_VALUE;
    private static final int GREATEST = Integer.MAX_VALUE;

    private static final String NO_HERD =
            "Throws `IndexOutOfBoundsException` if the herd does not exist";
    private static final String NO_PASTURE =
            "Throws `IndexOutOfBoundsException` if the pasture does not exist";
    private static final String NEITHER =
            "Throws `IndexOutOfBoundsException` if the herd or the pasture does not exist";
    private static final String NOT_BOTH =
            "Throws `IndexOutOfBoundsException` if one of the herds does not exist";
    private static final String AMOUNT =
            "Throws `IllegalArgumentException` if amount is out of range";
    private static final String TEXT_ERROR = "Throws `IllegalArgumentException` if the text has an "
            + "error; in this case only the buffer, the error code and the error position change";

    private interface Refused {
        Object run(PastureBanker b);
    }

    private interface One {
        Object run(PastureBanker b, int number);
    }

    private interface Two {
        Object run(PastureBanker b, int first, int second);
    }

    /** A state to refuse calls in, with all that it shows. */
    private static final class Subject {
        final String name;
        final Look.Build build;
        final String everything;
        final String behindInput;
        final int pastures;
        final int herds;
        final String herd;

        Subject(String name, Look.Build build) {
            this.name = name;
            this.build = build;
            everything = Look.everything(build);
            behindInput = Look.behindInput(build);
            pastures = build.make().pastureCount();
            herds = build.make().herdCount();
            herd = Look.herdName(build.make(), 0);
        }
    }

    private static final Subject FRESH = new Subject("fresh", PastureBanker::new);
    private static final Subject BUSY = new Subject("busy", States::busy);
    private static final Subject FULL = new Subject("full", States::full);
    private static final Subject TINY = new Subject("tiny", States::tiny);
    private static final Subject RICH = new Subject("rich", States::rich);
    private static final Subject CHAIN = new Subject("chain", States::chain);
    private static final Subject[] SIZES = {BUSY, FULL, TINY};

    public static void main(String[] args) {
        input();
        herdsAndPastures();
        safety();
        queueAndDebts();
        request();
        release();
        finishAndCancel();
        setCapacity();
        setMaximum();
        lend();
        repay();
        undoSaveAndRestore();
        output();
        order();
        oneAfterTheOther();
        Sentences.allQuoted("Throws .*");
        Check.finish("RefusalTest");
    }

    private static void about(int promise, String sentence) {
        Sentences.about(promise, sentence);
    }

    private static void refused(Subject subject, String what, Class<?> exception, Refused call) {
        Check.due(subject.name + ", " + what, exception, () -> call.run(subject.build.make()));
        Check.due(subject.name + ", " + what + ", shows", subject.everything,
                () -> Look.everything(() -> after(subject.build.make(), call)));
    }

    private static PastureBanker after(PastureBanker b, Refused call) {
        try {
            call.run(b);
        } catch (RuntimeException thrown) {
            return b;
        }
        return b;
    }

    private static void answers(Subject subject, String what, Object want, Refused call) {
        Check.due(subject.name + ", " + what, want, () -> call.run(subject.build.make()));
    }

    /** The call may be refused for another reason, but not by this exception. */
    private static void passes(Subject subject, String what, Class<?> exception, Refused call) {
        Check.due(subject.name + ", " + what + " is refused so", false,
                () -> isRefused(subject, exception, call));
    }

    private static boolean isRefused(Subject subject, Class<?> exception, Refused call) {
        try {
            call.run(subject.build.make());
        } catch (RuntimeException thrown) {
            return thrown.getClass() == exception;
        }
        return false;
    }

    // ---- numbers of herds and pastures

    private static int[] outside(int count) {
        return new int[] {-1, count, LEAST, GREATEST};
    }

    private static void noNumber(Subject subject, String kind, int count, One call) {
        for (int number : outside(count)) {
            refused(subject, kind + " " + number, INDEX, b -> call.run(b, number));
        }
        passes(subject, kind + " 0", INDEX, b -> call.run(b, 0));
        passes(subject, "the last " + kind, INDEX, b -> call.run(b, count - 1));
    }

    private static void noHerd(int promise, One call) {
        about(promise, NO_HERD);
        for (Subject subject : SIZES) {
            noNumber(subject, "herd", subject.herds, call);
        }
    }

    private static void noPasture(int promise, One call) {
        about(promise, NO_PASTURE);
        for (Subject subject : SIZES) {
            noNumber(subject, "pasture", subject.pastures, call);
        }
    }

    private static void neither(int promise, Two call) {
        about(promise, NEITHER);
        for (Subject subject : SIZES) {
            noNumbers(subject, subject.herds, subject.pastures, call);
        }
    }

    private static void notBoth(int promise, Two call) {
        about(promise, NOT_BOTH);
        for (Subject subject : SIZES) {
            noNumbers(subject, subject.herds, subject.herds, call);
        }
    }

    private static void noNumbers(Subject subject, int firsts, int seconds, Two call) {
        noNumber(subject, "first number", firsts, (b, first) -> call.run(b, first, 0));
        noNumber(subject, "second number", seconds, (b, second) -> call.run(b, 0, second));
        passes(subject, "both last", INDEX, b -> call.run(b, firsts - 1, seconds - 1));
        refused(subject, "both -1", INDEX, b -> call.run(b, -1, -1));
        refused(subject, "both too large", INDEX, b -> call.run(b, firsts, seconds));
        refused(subject, "-1 and too large", INDEX, b -> call.run(b, -1, seconds));
        refused(subject, "last and too large", INDEX, b -> call.run(b, firsts - 1, seconds));
        refused(subject, "too large and last", INDEX, b -> call.run(b, firsts, seconds - 1));
    }

    private static void noAmount(int promise, String sentence, int least, int most, Two call) {
        about(promise, sentence);
        for (Subject subject : new Subject[] {FRESH, BUSY, RICH, CHAIN}) {
            for (int amount : new int[] {least - 1, most + 1, -1, LEAST, GREATEST}) {
                refused(subject, "amount " + amount, ARGUMENT, b -> call.run(b, 0, amount));
                refused(subject, "amount " + amount, ARGUMENT, b -> call.run(b, 1, amount));
            }
            passes(subject, "the least", ARGUMENT, b -> call.run(b, 0, least));
            passes(subject, "the greatest", ARGUMENT, b -> call.run(b, 0, most));
        }
    }

    // ---- input

    private static void input() {
        append();
        truncate();
        load();
        runScript();
        findHerd();
    }

    private static Subject buffer(int length) {
        return new Subject(length + " bytes", () -> withBuffer(length));
    }

    private static PastureBanker withBuffer(int length) {
        PastureBanker b = new PastureBanker();
        Check.put(b, "finish ann;" + " ".repeat(589));
        b.truncate(length);
        return b;
    }

    private static void append() {
        about(2, "Throws `IllegalStateException` if the new length would exceed 600");
        answers(buffer(579), "append", 599, b -> b.append(0, 0, 0, 0, 0));
        answers(buffer(580), "append", 600, b -> b.append(0, 0, 0, 0, 0));
        for (int length : new int[] {581, 590, 599, 600}) {
            refused(buffer(length), "append", STATE, b -> b.append(0, -1, 1, LEAST, GREATEST));
        }
        refused(FULL, "append", STATE, b -> b.append(0, 0, 0, 0, 0));
    }

    private static void truncate() {
        about(3, "Throws `IllegalArgumentException` if length is out of range");
        for (int length : new int[] {0, 1, 20, 599, 600}) {
            Subject subject = buffer(length);
            answers(subject, "to its length", length, b -> b.truncate(length));
            answers(subject, "to 0", 0, b -> b.truncate(0));
            for (int wrong : new int[] {-1, length + 1, 601, LEAST, GREATEST}) {
                refused(subject, "to " + wrong, ARGUMENT, b -> b.truncate(wrong));
            }
        }
        refused(BUSY, "to -1", ARGUMENT, b -> b.truncate(-1));
        refused(TINY, "to 2", ARGUMENT, b -> b.truncate(2));
    }

    private static void load() {
        about(4, TEXT_ERROR);
        String fine = "rights;pasture m 8;herd q 3;";
        for (Subject subject : new Subject[] {FRESH, BUSY, FULL, TINY}) {
            textError(subject, "", "error 1 at 0", true);
            textError(subject, fine + "x", "error 1 at 28", true);
            textError(subject, fine.substring(0, 27), "error 1 at 27", true);
            textError(subject, "rights;pasture a 51;", "error 2 at 17", true);
            textError(subject, "rights;pasture abcdefg 9;", "error 3 at 15", true);
            textError(subject, States.setup(6, 1, 1, 1), "error 4 at 67", true);
            textError(subject, States.setup(1, 1, 9, 1), "error 4 at 91", true);
        }
    }

    private static void runScript() {
        about(54, TEXT_ERROR);
        for (Subject subject : new Subject[] {FRESH, BUSY, FULL, TINY}) {
            String fine = "finish " + subject.herd + ";";
            int length = fine.length();
            textError(subject, "graze", "error 1 at 0", false);
            textError(subject, fine + fine + ";", "error 1 at " + 2 * length, false);
            textError(subject, fine + "finish", "error 1 at " + (length + 6), false);
            textError(subject, fine + "cancel zoe;", "error 3 at " + (length + 7), false);
            textError(subject, fine.repeat(31), "error 4 at " + 30 * length, false);
        }
    }

    private static void textError(Subject subject, String text, String error, boolean isSetup) {
        Look.Build build = () -> afterText(subject, text, isSetup);
        PastureBanker b = subject.build.make();
        b.truncate(0);
        Check.put(b, text);
        String what = subject.name + ", <" + text + ">";
        Check.due(what, ARGUMENT, () -> isSetup ? b.load() : b.runScript());
        Check.due(what + " error", error, () -> Check.codes(build.make()));
        Check.due(what + " empties the buffer", 0, () -> Look.length(build.make()));
        Check.due(what + " shows", subject.behindInput, () -> Look.behindInput(build));
    }

    private static PastureBanker afterText(Subject subject, String text, boolean isSetup) {
        PastureBanker b = subject.build.make();
        b.truncate(0);
        Check.put(b, text);
        return after(b, isSetup ? PastureBanker::load : PastureBanker::runScript);
    }

    private static void findHerd() {
        about(16, "Throws `NoSuchElementException` if no herd has this name");
        answers(TINY, "h", 0, PastureBanker::findHerd);
        refused(FRESH, "an empty buffer", NoSuchElementException.class, PastureBanker::findHerd);
        refused(BUSY, "a script", NoSuchElementException.class, PastureBanker::findHerd);
        refused(FULL, "600 bytes", NoSuchElementException.class, PastureBanker::findHerd);
        answers(named("ann"), "ann", 0, PastureBanker::findHerd);
        answers(named("eve"), "eve", 4, PastureBanker::findHerd);
        for (String name : new String[] {"an", "anna", "nn", "amn", "ann ", " ann", "ann;", "hill",
            "annann", "annannann", "Ann", "zoe", "an\u00ee", "eve\0"}) {
            refused(named(name), "no herd", NoSuchElementException.class, PastureBanker::findHerd);
        }
    }

    private static Subject named(String name) {
        return new Subject("<" + name + ">", () -> {
            PastureBanker b = new PastureBanker();
            Check.put(b, name);
            return b;
        });
    }

    // ---- questions

    private static void herdsAndPastures() {
        noPasture(9, PastureBanker::capacity);
        noPasture(10, PastureBanker::available);
        neither(11, PastureBanker::maximum);
        neither(12, PastureBanker::allocation);
        neither(13, PastureBanker::need);
        about(14, NO_HERD + ", or its name has no such letter");
        letters(true);
        about(15, NO_PASTURE + ", or its name has no such letter");
        letters(false);
    }

    private static void letters(boolean ofHerd) {
        Two call = ofHerd ? PastureBanker::herdNameByte : PastureBanker::pastureNameByte;
        for (Subject subject : SIZES) {
            int count = ofHerd ? subject.herds : subject.pastures;
            noNumber(subject, "number", count, (b, number) -> call.run(b, number, 0));
        }
        Subject subject = new Subject("names", () -> Check.loaded("rights;pasture abcdef 1;"
                + "pasture z 1;pasture uvw 1;herd abcdef 0 0 0;herd z 0 0 0;herd uvw 0 0 0;"));
        int[] lengths = {6, 1, 3};
        for (int name = 0; name < 3; name++) {
            int number = name;
            noNumber(subject, "letter", lengths[name], (b, index) -> call.run(b, number, index));
        }
        refused(subject, "neither name nor letter", INDEX, b -> call.run(b, 3, 6));
        refused(subject, "no name, letter -1", INDEX, b -> call.run(b, -1, -1));
        refused(subject, "no name, letter 6", INDEX, b -> call.run(b, -1, 6));
        refused(subject, "a letter of the name before", INDEX, b -> call.run(b, 1, -6));
        refused(subject, "a letter of the name behind", INDEX, b -> call.run(b, 1, 6));
    }

    private static void safety() {
        noHerd(19, PastureBanker::canFinish);
        neither(20, (b, herd, pasture) -> b.whyNotGranted(herd, pasture, 1));
        noAmount(20, AMOUNT, 1, 50, (b, herd, amount) -> b.whyNotGranted(herd, 0, amount));
        neither(21, PastureBanker::largestGrant);
        noPasture(22, PastureBanker::safeCapacity);
    }

    private static void queueAndDebts() {
        noHerd(26, PastureBanker::isWaiting);
        noHerd(27, PastureBanker::requestedPasture);
        noHerd(28, PastureBanker::requestedAmount);
        notBoth(29, PastureBanker::waitsFor);
        noHerd(30, PastureBanker::isDeadlocked);
        notBoth(32, PastureBanker::debt);
        noHerd(33, PastureBanker::totalDebt);
        noHerd(34, PastureBanker::totalClaims);
        notBoth(35, PastureBanker::closedCycleLength);
        noHerd(36, PastureBanker::debtDepth);
        about(37, "Throws `IndexOutOfBoundsException` if position is negative or not less than the "
                + "number of herds");
        for (Subject subject : SIZES) {
            noNumber(subject, "position", subject.herds, PastureBanker::settlementOrder);
        }
        noHerd(38, PastureBanker::transitiveClaims);
        noPasture(43, PastureBanker::utilization);
    }

    // ---- changes

    private static void request() {
        neither(46, (b, herd, pasture) -> b.request(herd, pasture, 1));
        noAmount(46, AMOUNT, 1, 50, (b, herd, amount) -> b.request(herd, 0, amount));
        about(46, "Throws `IllegalStateException` if the herd is waiting, or the amount exceeds its "
                + "remaining need");
        refused(BUSY, "ann waits for hill", STATE, b -> b.request(0, 0, 1));
        refused(BUSY, "ann waits, but for hill", STATE, b -> b.request(0, 1, 1));
        refused(BUSY, "eve waits", STATE, b -> b.request(4, 2, 1));
        refused(FULL, "the last waits", STATE, b -> b.request(7, 4, 1));
        refused(FRESH, "8 of a need of 7", STATE, b -> b.request(0, 0, 8));
        answers(FRESH, "7 of a need of 7", true, b -> b.request(0, 0, 7));
        refused(FRESH, "50 of a need of 7", STATE, b -> b.request(0, 0, 50));
        refused(FRESH, "1 of a need of 0", STATE, b -> b.request(2, 1, 1));
        refused(BUSY, "2 of a need of 1", STATE, b -> b.request(1, 0, 2));
        answers(BUSY, "1 of a need of 1", true, b -> b.request(1, 0, 1));
        refused(RICH, "2 of a need of 1", STATE, b -> b.request(0, 0, 2));
        answers(RICH, "1 of a need of 1", true, b -> b.request(0, 0, 1));
        refused(TINY, "1 of a need of 0", STATE, b -> b.request(0, 0, 1));
    }

    private static void release() {
        neither(47, (b, herd, pasture) -> b.release(herd, pasture, 1));
        noAmount(47, AMOUNT, 1, 50, (b, herd, amount) -> b.release(herd, 0, amount));
        about(47, "Throws `IllegalStateException` if the herd holds fewer units");
        refused(BUSY, "4 of 3", STATE, b -> b.release(2, 0, 4));
        answers(BUSY, "3 of 3", 0, b -> b.release(2, 0, 3) * 0);
        refused(BUSY, "1 of 0", STATE, b -> b.release(2, 1, 1));
        refused(BUSY, "1 of 0, of a herd that waits for it", STATE, b -> b.release(0, 0, 1));
        refused(FULL, "2 of 1", STATE, b -> b.release(7, 4, 2));
        answers(FULL, "1 of 1", 0, b -> b.release(7, 4, 1));
        refused(RICH, "50 of 49", STATE, b -> b.release(0, 0, 50));
        answers(RICH, "49 of 49", 0, b -> b.release(0, 0, 49));
        refused(FRESH, "1 of 0", STATE, b -> b.release(0, 0, 1));
    }

    private static void finishAndCancel() {
        noHerd(48, PastureBanker::finish);
        noHerd(49, PastureBanker::cancel);
        about(49, "Throws `IllegalStateException` if the herd is not waiting");
        answers(BUSY, "ann waits", 0, b -> b.cancel(0));
        answers(BUSY, "eve waits", 0, b -> b.cancel(4));
        refused(BUSY, "bob does not wait", STATE, b -> b.cancel(1));
        refused(BUSY, "dot does not wait", STATE, b -> b.cancel(3));
        refused(FRESH, "nobody waits", STATE, b -> b.cancel(0));
        refused(TINY, "nobody waits", STATE, b -> b.cancel(0));
        Subject withdrawn = new Subject("cancelled", () -> {
            PastureBanker b = States.busy();
            b.cancel(0);
            return b;
        });
        refused(withdrawn, "ann waits no more", STATE, b -> b.cancel(0));
        Subject granted = new Subject("granted", () -> {
            PastureBanker b = States.busy();
            b.setCapacity(0, 50);
            return b;
        });
        refused(granted, "ann waits no more", STATE, b -> b.cancel(0));
        refused(granted, "eve waits no more", STATE, b -> b.cancel(4));
    }

    private static void setCapacity() {
        noPasture(50, (b, pasture) -> b.setCapacity(pasture, 50));
        about(50, "Throws `IllegalArgumentException` if capacity is out of range");
        for (Subject subject : new Subject[] {FRESH, BUSY, FULL, TINY, RICH}) {
            for (int capacity : new int[] {-1, 51, LEAST, GREATEST}) {
                refused(subject, "to " + capacity, ARGUMENT, b -> b.setCapacity(0, capacity));
            }
            passes(subject, "to 0", ARGUMENT, b -> b.setCapacity(0, 0));
            passes(subject, "to 50", ARGUMENT, b -> b.setCapacity(0, 50));
        }
        about(50, "Throws `IllegalStateException` if capacity is less than the sum of the "
                + "allocations on the pasture");
        refused(BUSY, "6 of 7", STATE, b -> b.setCapacity(0, 6));
        answers(BUSY, "7 of 7", 0, b -> b.setCapacity(0, 7));
        refused(BUSY, "0 of 7", STATE, b -> b.setCapacity(0, 0));
        refused(BUSY, "1 of 2", STATE, b -> b.setCapacity(1, 1));
        answers(BUSY, "2 of 2", 0, b -> b.setCapacity(1, 2));
        refused(FULL, "7 of 8", STATE, b -> b.setCapacity(4, 7));
        answers(FULL, "8 of 8", 0, b -> b.setCapacity(4, 8));
        refused(RICH, "48 of 49", STATE, b -> b.setCapacity(0, 48));
        answers(RICH, "49 of 49", 0, b -> b.setCapacity(0, 49));
        answers(FRESH, "0 of 0", 0, b -> b.setCapacity(0, 0));
        answers(TINY, "0 of 0", 0, b -> b.setCapacity(0, 0));
    }

    private static void setMaximum() {
        neither(51, (b, herd, pasture) -> b.setMaximum(herd, pasture, 50));
        about(51, "Throws `IllegalArgumentException` if maximum is out of range");
        for (Subject subject : new Subject[] {FRESH, BUSY, FULL, TINY, RICH}) {
            for (int maximum : new int[] {-1, 51, LEAST, GREATEST}) {
                refused(subject, "to " + maximum, ARGUMENT, b -> b.setMaximum(0, 0, maximum));
            }
            passes(subject, "to 0", ARGUMENT, b -> b.setMaximum(0, 0, 0));
            passes(subject, "to 50", ARGUMENT, b -> b.setMaximum(0, 0, 50));
        }
        about(51, "Throws `IllegalStateException` if maximum is less than the allocation plus the "
                + "pending request of the herd on this pasture");
        refused(BUSY, "2, cid holds 3", STATE, b -> b.setMaximum(2, 0, 2));
        answers(BUSY, "3, cid holds 3", 0, b -> b.setMaximum(2, 0, 3));
        refused(BUSY, "3, ann wants 4", STATE, b -> b.setMaximum(0, 0, 3));
        answers(BUSY, "4, ann wants 4", 0, b -> b.setMaximum(0, 0, 4));
        refused(BUSY, "0, ann holds 1 of it and wants 4 of another", STATE,
                b -> b.setMaximum(0, 1, 0));
        answers(BUSY, "1, ann holds 1 of it and wants 4 of another", 0,
                b -> b.setMaximum(0, 1, 1));
        answers(BUSY, "0, ann wants another", 0, b -> b.setMaximum(0, 2, 0));
        refused(FULL, "8, herd h holds 1 and wants 8", STATE, b -> b.setMaximum(7, 4, 8));
        answers(FULL, "9, herd h holds 1 and wants 8", 0, b -> b.setMaximum(7, 4, 9));
        refused(RICH, "48, x holds 49", STATE, b -> b.setMaximum(0, 0, 48));
        answers(RICH, "49, x holds 49", 0, b -> b.setMaximum(0, 0, 49));
        answers(TINY, "0, h holds 0", 0, b -> b.setMaximum(0, 0, 0));
    }

    private static void lend() {
        notBoth(52, (b, creditor, debtor) -> b.lend(creditor, debtor, 1));
        noAmount(52, AMOUNT, 1, 999, (b, debtor, amount) -> b.lend(1 - debtor, debtor, amount));
        about(52, "Throws `IllegalStateException` if the debt would close a cycle (this includes a "
                + "debt of a herd to itself), or the new debt would exceed 999");
        for (int herd = 0; herd < 5; herd++) {
            int self = herd;
            refused(FRESH, "to itself", STATE, b -> b.lend(self, self, 1));
        }
        refused(FULL, "the last to itself", STATE, b -> b.lend(7, 7, 1));
        refused(BUSY, "a cycle of two", STATE, b -> b.lend(0, 1, 1));
        refused(BUSY, "a cycle of three", STATE, b -> b.lend(0, 2, 1));
        refused(CHAIN, "a cycle of two", STATE, b -> b.lend(6, 7, 1));
        refused(CHAIN, "a cycle of seven", STATE, b -> b.lend(1, 7, 999));
        refused(CHAIN, "a cycle of eight", STATE, b -> b.lend(0, 7, 1));
        answers(CHAIN, "no cycle", 1, b -> b.lend(7, 0, 1));
        answers(BUSY, "no cycle, as bob owes cid", 1, b -> b.lend(2, 0, 1));
        refused(BUSY, "999 and 1", STATE, b -> b.lend(4, 3, 1));
        refused(BUSY, "999 and 999", STATE, b -> b.lend(4, 3, 999));
        refused(RICH, "998 and 2", STATE, b -> b.lend(0, 1, 2));
        answers(RICH, "998 and 1", 999, b -> b.lend(0, 1, 1));
        refused(BUSY, "10 and 990", STATE, b -> b.lend(1, 0, 990));
        answers(BUSY, "10 and 989", 999, b -> b.lend(1, 0, 989));
        answers(FRESH, "0 and 999", 999, b -> b.lend(1, 0, 999));
    }

    private static void repay() {
        notBoth(53, (b, debtor, creditor) -> b.repay(debtor, creditor, 1));
        noAmount(53, AMOUNT, 1, 999, (b, debtor, amount) -> b.repay(debtor, 0, amount));
        about(53, "Throws `IllegalStateException` if amount exceeds the debt");
        refused(BUSY, "11 of 10", STATE, b -> b.repay(0, 1, 11));
        answers(BUSY, "10 of 10", 0, b -> b.repay(0, 1, 10));
        answers(BUSY, "9 of 10", 1, b -> b.repay(0, 1, 9));
        refused(BUSY, "1 of 0, the other way", STATE, b -> b.repay(1, 0, 1));
        refused(BUSY, "1 of 0, along a chain", STATE, b -> b.repay(0, 2, 1));
        refused(BUSY, "1 of 0, to itself", STATE, b -> b.repay(0, 0, 1));
        answers(BUSY, "999 of 999", 0, b -> b.repay(3, 4, 999));
        refused(RICH, "999 of 998", STATE, b -> b.repay(1, 0, 999));
        answers(RICH, "998 of 998", 0, b -> b.repay(1, 0, 998));
        refused(CHAIN, "2 of 1", STATE, b -> b.repay(0, 1, 2));
        refused(CHAIN, "8 of 7", STATE, b -> b.repay(6, 7, 8));
        refused(TINY, "1 of 0", STATE, b -> b.repay(0, 0, 1));
    }

    // ---- undo, saved states, output

    private static Subject changed(String name, Look.Build build, Refused... calls) {
        return new Subject(name, () -> {
            PastureBanker b = build.make();
            for (Refused call : calls) {
                call.run(b);
            }
            return b;
        });
    }

    private static void undoSaveAndRestore() {
        about(55, "Throws `IllegalStateException` if there is none");
        Refused undo = PastureBanker::undo;
        refused(FRESH, "nothing was done", STATE, undo);
        refused(TINY, "a setup is no change", STATE, undo);
        refused(changed("restored", States::busy, b -> b.restore(1)), "restore is none", STATE, undo);
        refused(changed("undone", States::busy, undo, undo, undo, undo, undo, undo),
                "six are undone", STATE, undo);
        refused(changed("once", States::tiny, b -> b.finish(0), undo), "one is undone", STATE, undo);
        refused(changed("saved", States::tiny, b -> b.save(0)), "save is none", STATE, undo);
        answers(changed("once", States::tiny, b -> b.finish(0)), "one is left", 0, undo);
        answers(changed("five", States::busy, undo, undo, undo, undo, undo), "the sixth", 0, undo);
        about(56, "Throws `IndexOutOfBoundsException` if the slot does not exist");
        slots(PastureBanker::save);
        about(57, "Throws `IndexOutOfBoundsException` if the slot does not exist");
        slots(PastureBanker::restore);
        about(57, "Throws `IllegalStateException` if nothing is saved in the slot");
        for (int slot = 0; slot <= 1; slot++) {
            int empty = slot;
            refused(FRESH, "slot " + slot, STATE, b -> b.restore(empty));
            refused(TINY, "slot " + slot, STATE, b -> b.restore(empty));
            refused(changed("other", States::tiny, b -> b.save(1 - empty)), "slot " + slot, STATE,
                    b -> b.restore(empty));
            refused(changed("loaded", States::full, RefusalTest::loadTiny), "slot " + slot, STATE,
                    b -> b.restore(empty));
            answers(changed("saved", States::tiny, b -> b.save(empty)), "slot " + slot, 0,
                    b -> b.restore(empty));
        }
        refused(BUSY, "slot 0", STATE, b -> b.restore(0));
        answers(BUSY, "slot 1", 0, b -> b.restore(1));
    }

    private static Object loadTiny(PastureBanker b) {
        b.truncate(0);
        Check.put(b, "rights;pasture p 0;herd h 0;");
        return b.load();
    }

    private static void slots(One call) {
        for (Subject subject : new Subject[] {FRESH, BUSY, FULL, TINY}) {
            noNumber(subject, "slot", 2, call);
        }
    }

    private static void output() {
        about(59, "Throws `IndexOutOfBoundsException` if index is out of range or nothing was "
                + "written yet");
        for (int index : outside(0)) {
            refused(FRESH, "nothing written, " + index, INDEX, b -> b.outputByte(index));
            refused(TINY, "nothing written, " + index, INDEX, b -> b.outputByte(index));
        }
        // What busy wrote is "ann:0,1,0? bob:2,0,0 cid:3,0,2 dot:2,1,1 eve:0,0,2".
        noNumber(BUSY, "index", 50, PastureBanker::outputByte);
        answers(BUSY, "first byte", (int) 'a', b -> b.outputByte(0));
        answers(BUSY, "last byte", (int) '2', b -> b.outputByte(49));
        noNumber(FULL, "index", 103, PastureBanker::outputByte);
        answers(FULL, "last byte", (int) '?', b -> b.outputByte(102));
        Subject shorter = changed("shorter", States::full, PastureBanker::writeAllocations,
                RefusalTest::loadTiny, PastureBanker::writeAllocations);
        noNumber(shorter, "index", 3, PastureBanker::outputByte);
    }

    // ---- several exceptions, several calls

    private static void order() {
        Sentences.aboutTerms("If several exceptions apply, the one that is listed first is thrown.");
        int[] badUnits = {0, 51, -1};
        for (int amount : badUnits) {
            refused(BUSY, "why: herd, amount", INDEX, b -> b.whyNotGranted(5, 0, amount));
            refused(BUSY, "why: pasture, amount", INDEX, b -> b.whyNotGranted(0, 3, amount));
            refused(BUSY, "request: herd, amount", INDEX, b -> b.request(5, 0, amount));
            refused(BUSY, "request: pasture, amount, waits", INDEX, b -> b.request(0, 3, amount));
            refused(BUSY, "request: amount, waits", ARGUMENT, b -> b.request(0, 0, amount));
            refused(BUSY, "request: amount, need", ARGUMENT, b -> b.request(2, 1, amount));
            refused(BUSY, "release: herd, amount", INDEX, b -> b.release(-1, 0, amount));
            refused(BUSY, "release: pasture, amount", INDEX, b -> b.release(0, -1, amount));
            refused(BUSY, "release: amount, holds 0", ARGUMENT, b -> b.release(1, 1, amount));
        }
        refused(BUSY, "request: pasture, waits", INDEX, b -> b.request(0, -1, 1));
        refused(BUSY, "release: pasture, holds 0", INDEX, b -> b.release(1, 3, 50));
        for (int units : new int[] {-1, 51}) {
            refused(BUSY, "capacity: pasture, units", INDEX, b -> b.setCapacity(3, units));
            refused(BUSY, "capacity: units, held", ARGUMENT, b -> b.setCapacity(0, units));
            refused(BUSY, "maximum: herd, units", INDEX, b -> b.setMaximum(5, 0, units));
            refused(BUSY, "maximum: pasture, units", INDEX, b -> b.setMaximum(0, 3, units));
            refused(BUSY, "maximum: units, held", ARGUMENT, b -> b.setMaximum(2, 0, units));
        }
        orderOfCoins();
    }

    private static void orderOfCoins() {
        for (int coins : new int[] {0, 1000, -1}) {
            refused(BUSY, "lend: creditor, amount", INDEX, b -> b.lend(5, 0, coins));
            refused(BUSY, "lend: debtor, amount", INDEX, b -> b.lend(0, 5, coins));
            refused(BUSY, "lend: amount, itself", ARGUMENT, b -> b.lend(0, 0, coins));
            refused(BUSY, "lend: amount, a cycle", ARGUMENT, b -> b.lend(0, 2, coins));
            refused(BUSY, "lend: amount, above 999", ARGUMENT, b -> b.lend(4, 3, coins));
            refused(BUSY, "repay: debtor, amount", INDEX, b -> b.repay(-1, 0, coins));
            refused(BUSY, "repay: creditor, amount", INDEX, b -> b.repay(0, -1, coins));
            refused(BUSY, "repay: amount, no debt", ARGUMENT, b -> b.repay(2, 1, coins));
        }
        refused(BUSY, "lend: both to itself, but no herd", INDEX, b -> b.lend(5, 5, 1));
        refused(BUSY, "repay: no herd and no debt", INDEX, b -> b.repay(5, 5, 999));
        refused(BUSY, "cancel: no herd, which does not wait", INDEX, b -> b.cancel(5));
        refused(BUSY, "restore: no slot, with nothing saved", INDEX, b -> b.restore(2));
    }

    /** Many refused calls on one object: what each leaves behind would add up. */
    private static void oneAfterTheOther() {
        Sentences.aboutTerms("A method that throws an exception changes nothing unless its "
                + "description says otherwise.");
        Refused[] calls = {b -> b.request(0, 0, 1), b -> b.request(3, 0, 1), b -> b.release(1, 1, 1),
            b -> b.finish(-1), b -> b.cancel(1), b -> b.setCapacity(0, 6),
            b -> b.setMaximum(0, 0, 3), b -> b.lend(0, 2, 1), b -> b.lend(4, 3, 1),
            b -> b.repay(0, 1, 11), b -> b.save(2), b -> b.restore(0), b -> b.outputByte(50),
            b -> b.truncate(601), PastureBanker::findHerd, b -> b.capacity(3),
            b -> b.whyNotGranted(0, 0, 51), b -> b.settlementOrder(5)};
        Look.Build build = () -> {
            PastureBanker b = States.busy();
            for (Refused call : calls) {
                after(b, call);
            }
            return b;
        };
        for (Refused call : calls) {
            Check.due("is refused", true, () -> isRefused(BUSY, INDEX, call)
                    || isRefused(BUSY, ARGUMENT, call) || isRefused(BUSY, STATE, call)
                    || isRefused(BUSY, NoSuchElementException.class, call));
        }
        Check.due("all of them", BUSY.everything, () -> Look.everything(build));
    }
}
