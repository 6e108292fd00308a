import java.util.NoSuchElementException;

/** For each promise of the document: ordinary inputs, the edges that it names, wrong inputs. */
public final class PromiseTest {
    private static final Class<?> INDEX = IndexOutOfBoundsException.class;
    private static final Class<?> ARGUMENT = IllegalArgumentException.class;
    private static final Class<?> STATE = IllegalStateException.class;
    private static final int LEAST = Integer.MIN_VALUE;
    private static final int GREATEST = Integer.MAX_VALUE;

    public static void main(String[] args) {
        promises1To6();
        promises7To16();
        promises17To23();
        promises24To31();
        promises32To38();
        promises39To45();
        promises46To54();
        promises55To59();
        allAtFullSize();
        Check.finish("PromiseTest");
    }

    private static void due(String what, Object want, Check.Call call) {
        Check.due(what, want, call);
    }

    private static void promises1To6() {
        promise1();
        promise2();
        promise3();
        promise4();
        promise4Error();
        promises5And6();
    }

    private static void promises7To16() {
        promises7And8();
        promises9And10();
        promises11To13();
        promises14And15();
        promise16();
    }

    private static void promises17To23() {
        promises17And18();
        promise18Order();
        promise19();
        promise20();
        promise20Errors();
        promise21();
        promise22();
        promise23();
    }

    private static void promises24To31() {
        promises24To28();
        promise29();
        promises30And31();
        promises30And31Picks();
    }

    private static void promises32To38() {
        promises32To34();
        promise35();
        promise36();
        promise37();
        promise38();
    }

    private static void promises39To45() {
        promises39To42();
        promise43();
        promise44();
        promise45();
    }

    private static void promises46To54() {
        promise46();
        promise46Errors();
        promise47();
        promise47Queue();
        promise48();
        promise49();
        promise50();
        promise51();
        promise51Pending();
        promise52();
        promise53();
        promise54();
        promise54Commands();
        promise54Stops();
    }

    private static void promises55To59() {
        promise55();
        promise55Everything();
        promises56And57();
        promises56And57Slots();
        promise58();
        promise59();
    }

    /** Each call with five pastures and eight herds: no row of the class is too short for it. */
    private static void allAtFullSize() {
        PastureBanker b = Check.loaded("rights;pasture a 8;pasture b 8;pasture c 8;pasture d 8;"
                + "pasture e 8;herd a 0 1 1 1 1;herd b 0 1 1 1 1;herd c 0 1 1 1 1;herd d 0 1 1 1 1;"
                + "herd e 0 1 1 1 1;herd f 0 1 1 1 1;herd g 0 1 1 1 1;herd h 0 1 1 1 1;");
        for (int herd = 0; herd < 8; herd++) {
            for (int pasture = 1; pasture < 5; pasture++) {
                int h = herd;
                int p = pasture;
                due("full: granted", true, () -> b.request(h, p, 1));
            }
        }
        for (int herd = 0; herd < 8; herd++) {
            int h = herd;
            b.setMaximum(h, 4, 9);
            due("full: queued", false, () -> b.request(h, 4, 8));
        }
        due("full: queue", "0 1 2 3 4 5 6 7 ", () -> Look.queue(b));
        due("full: position 7", 7, () -> b.queuedHerd(7));
        due("full: position 8", -1, () -> b.queuedHerd(8));
        due("full: all are deadlocked", 8, b::deadlockedCount);
        due("full: the last waits for the first", true, () -> b.waitsFor(7, 0));
        due("full: safe capacity", 16, () -> b.safeCapacity(4));
        due("full: not safe", false, b::isSafe);
        due("full: best", 0, b::bestToFinish);
        due("full: why", 1, () -> b.whyNotGranted(7, 4, 8));
        due("full: largest", 0, () -> b.largestGrant(7, 4));
        due("full: consistent", 0, b::inconsistencies);
        due("full: text", "a:0,1,1,1,1? b:0,1,1,1,1? c:0,1,1,1,1? d:0,1,1,1,1? e:0,1,1,1,1? "
                + "f:0,1,1,1,1? g:0,1,1,1,1? h:0,1,1,1,1?", () -> Check.output(b));
        due("full: the last is saved", 8, () -> b.save(1));
        due("full: the last finishes", 0, () -> b.finish(7));
        due("full: two let one go on", 0, () -> b.finish(6));
        due("full: undo", 5, b::undo);
        due("full: restore", 8, () -> b.restore(1));
        due("full: units for one: it gives back none", 1, () -> b.setCapacity(4, 16));
        due("full: the first", 9, () -> b.allocation(0, 4));
        due("full: one after the other", 1, () -> b.finish(0));
        PastureBanker chain = chain();
        due("full: consistent debts", 0, chain::inconsistencies);
        due("full: the last herd of the order", 7, () -> chain.settlementOrder(7));
        due("full: safe order", "0 1 2 3 4 5 6 7 ", () -> Look.safeOrder(chain));
    }

    // ---- states that several promises need

    /** Available 3, 3 and 2; needs ann 7 4 3, bob 1 2 2, cid 6 0 0, dot 0 1 1, eve 4 3 1. */
    private static PastureBanker shared() {
        PastureBanker b = new PastureBanker();
        b.request(0, 1, 1);
        b.request(1, 0, 2);
        b.request(2, 0, 3);
        b.request(2, 2, 2);
        b.request(3, 0, 2);
        b.request(3, 1, 1);
        b.request(3, 2, 1);
        b.request(4, 2, 2);
        return b;
    }

    /** Pasture a of 4: p holds 1, q holds 3; r waits for 1, s waits for 2. */
    private static PastureBanker queued() {
        PastureBanker b = Check.loaded("rights;pasture a 4;herd p 1;herd q 3;herd r 1;herd s 2;");
        b.request(0, 0, 1);
        b.request(1, 0, 3);
        b.request(2, 0, 1);
        b.request(3, 0, 2);
        return b;
    }

    /** x holds the one unit of a and waits for b, y holds the one unit of b and waits for a. */
    private static PastureBanker deadlocked() {
        PastureBanker b = Check.loaded("rights;pasture a 1;pasture b 1;herd x 1 0;herd y 0 1;");
        b.request(0, 0, 1);
        b.request(1, 1, 1);
        b.setMaximum(0, 1, 1);
        b.setMaximum(1, 0, 1);
        b.request(0, 1, 1);
        b.request(1, 0, 1);
        return b;
    }

    /** Debts: 0 owes 1, 1 owes 2, 2 owes 4, 0 owes 4; 3 owes 2. */
    private static PastureBanker indebted() {
        PastureBanker b = new PastureBanker();
        b.lend(1, 0, 10);
        b.lend(2, 1, 20);
        b.lend(4, 2, 40);
        b.lend(4, 0, 80);
        b.lend(2, 3, 160);
        return b;
    }

    private static void noHerd(String what, PastureBanker b, HerdCall call) {
        due(what + " of herd -1", INDEX, () -> call.run(-1));
        due(what + " of herd count", INDEX, () -> call.run(b.herdCount()));
        due(what + " of the least", INDEX, () -> call.run(LEAST));
        due(what + " of the greatest", INDEX, () -> call.run(GREATEST));
        due(what + " of the last herd", false,
                () -> INDEX.equals(call.run(b.herdCount() - 1).getClass()));
    }

    private static void noPasture(String what, PastureBanker b, HerdCall call) {
        due(what + " of pasture -1", INDEX, () -> call.run(-1));
        due(what + " of pasture count", INDEX, () -> call.run(b.pastureCount()));
        due(what + " of the least", INDEX, () -> call.run(LEAST));
        due(what + " of the greatest", INDEX, () -> call.run(GREATEST));
        due(what + " of the last pasture", false,
                () -> INDEX.equals(call.run(b.pastureCount() - 1).getClass()));
    }

    private interface HerdCall {
        Object run(int number);
    }

    private interface Change {
        Object run(PastureBanker b);
    }

    // ---- input

    private static void promise1() {
        PastureBanker b = new PastureBanker();
        String[] herds = {"ann", "bob", "cid", "dot", "eve"};
        String[] pastures = {"hill", "fen", "ridge"};
        int[] capacities = {10, 5, 7};
        int[][] maxima = {{7, 5, 3}, {3, 2, 2}, {9, 0, 2}, {2, 2, 2}, {4, 3, 3}};
        due("1 herds", 5, b::herdCount);
        due("1 pastures", 3, b::pastureCount);
        for (int pasture = 0; pasture < 3; pasture++) {
            int p = pasture;
            due("1 pasture name", pastures[p], () -> Look.pastureName(b, p));
            due("1 capacity", capacities[p], () -> b.capacity(p));
            due("1 available", capacities[p], () -> b.available(p));
            for (int herd = 0; herd < 5; herd++) {
                int h = herd;
                due("1 maximum", maxima[h][p], () -> b.maximum(h, p));
                due("1 allocation", 0, () -> b.allocation(h, p));
            }
        }
        for (int herd = 0; herd < 5; herd++) {
            int h = herd;
            due("1 herd name", herds[h], () -> Look.herdName(b, h));
            due("1 debt", 0, () -> b.totalDebt(h));
            due("1 waiting", false, () -> b.isWaiting(h));
        }
        due("1 counters", "0 0 0 0", () -> Look.counters(b));
        due("1 queue", 0, b::queueLength);
        due("1 error code", 0, b::errorCode);
        due("1 error position", -1, b::errorPosition);
        due("1 buffer", ARGUMENT, () -> b.truncate(1));
        due("1 empty buffer", 20, () -> b.append(0, 0, 0, 0, 0));
        due("1 nothing saved in 0", STATE, () -> b.restore(0));
        due("1 nothing saved in 1", STATE, () -> b.restore(1));
        due("1 nothing to undo", STATE, b::undo);
        due("1 nothing written", INDEX, () -> b.outputByte(0));
        PastureBanker other = new PastureBanker();
        b.request(0, 0, 1);
        due("1 objects have nothing in common", 0, () -> other.allocation(0, 0));
    }

    private static void promise2() {
        PastureBanker b = new PastureBanker();
        for (int length = 20; length <= 600; length += 20) {
            int want = length;
            due("2 append", want, () -> b.append(0x20202020, 0, -1, LEAST, GREATEST));
        }
        due("2 append to 600", STATE, () -> b.append(0, 0, 0, 0, 0));
        due("2 nothing appended", 600, () -> b.truncate(600));
        due("2 truncate", 581, () -> b.truncate(581));
        due("2 append to 581", STATE, () -> b.append(0, 0, 0, 0, 0));
        due("2 still 581", 581, () -> b.truncate(581));
        due("2 nothing appended", ARGUMENT, () -> b.truncate(582));
        due("2 truncate", 580, () -> b.truncate(580));
        due("2 append to 580", 600, () -> b.append(0, 0, 0, 0, 0));
        promise2Bytes();
    }

    /** All bytes are in one name each, at every place of the 20. */
    private static void promise2Bytes() {
        String text = "abcdefghijklmnopqrst";
        int[] words = Check.wordsAt(text, 0);
        due("2 first argument", 0x61626364, () -> words[0]);
        String setup = "rights;pasture a 9;herd abcdef 1;herd ghijkl 2;herd mnopqr 3;herd st 4;";
        for (int start = 0; start < 20; start++) {
            String shifted = " ".repeat(start) + setup;
            PastureBanker b = Check.loaded(shifted);
            due("2 names", "abcdef ghijkl mnopqr st", () -> Look.herdName(b, 0) + " " + Look.herdName(b, 1)
                    + " " + Look.herdName(b, 2) + " " + Look.herdName(b, 3));
        }
        PastureBanker b = Check.loaded("rights;pasture a 9;herd uvwxyz 1;herd abcdef 2;");
        b.append(0x61626364, 0x65666768, 0, 0, 0);
        b.truncate(6);
        due("2 most significant byte first", 1, b::findHerd);
    }

    private static void promise3() {
        PastureBanker b = new PastureBanker();
        due("3 empty buffer to 0", 0, () -> b.truncate(0));
        due("3 empty buffer to 1", ARGUMENT, () -> b.truncate(1));
        due("3 empty buffer to -1", ARGUMENT, () -> b.truncate(-1));
        b.append(0x616e6e00, 0, 0, 0, 0);
        due("3 to 21", ARGUMENT, () -> b.truncate(21));
        due("3 to the least", ARGUMENT, () -> b.truncate(LEAST));
        due("3 to the greatest", ARGUMENT, () -> b.truncate(GREATEST));
        due("3 to 20", 20, () -> b.truncate(20));
        due("3 to 3", 3, () -> b.truncate(3));
        due("3 the first bytes stay", 0, b::findHerd);
        due("3 to 4 again", ARGUMENT, () -> b.truncate(4));
        due("3 to 3 again", 3, () -> b.truncate(3));
        due("3 appends behind", 23, () -> b.append(0, 0, 0, 0, 0));
        due("3 to 0", 0, () -> b.truncate(0));
    }

    private static void promise4() {
        PastureBanker b = queued();
        b.lend(0, 1, 5);
        b.cancel(3);
        b.finish(0);
        b.save(0);
        b.save(1);
        b.writeAllocations();
        b.bestToFinish();
        Check.put(b, "rights;pasture m 8;pasture n 7;herd q 3 4;herd p 5 6;herd u 0 0;");
        due("4 load", 3, b::load);
        due("4 pastures", 2, b::pastureCount);
        due("4 herds", 3, b::herdCount);
        due("4 capacity", 7, () -> b.capacity(1));
        due("4 available", 8, () -> b.available(0));
        due("4 names", "q p u m n", () -> Look.herdName(b, 0) + " " + Look.herdName(b, 1) + " "
                + Look.herdName(b, 2) + " " + Look.pastureName(b, 0) + " " + Look.pastureName(b, 1));
        due("4 claims", "3 4 5 6 0", () -> b.maximum(0, 0) + " " + b.maximum(0, 1) + " "
                + b.maximum(1, 0) + " " + b.maximum(1, 1) + " " + b.maximum(2, 0));
        due("4 allocation", 0, () -> b.allocation(1, 0));
        due("4 debt", 0, () -> b.debt(1, 0));
        due("4 queue", 0, b::queueLength);
        due("4 waiting", false, () -> b.isWaiting(2));
        due("4 counters", "0 0 0 0", () -> Look.counters(b));
        due("4 saved 0", STATE, () -> b.restore(0));
        due("4 saved 1", STATE, () -> b.restore(1));
        due("4 undo", STATE, b::undo);
        due("4 code", 0, b::errorCode);
        due("4 position", -1, b::errorPosition);
        due("4 buffer", ARGUMENT, () -> b.truncate(1));
        due("4 output stays", (int) 'p', () -> b.outputByte(0));
        due("4 one herd", 1, () -> Check.loaded("rights;pasture a 1;herd x 1;").herdCount());
        promise4Busy();
    }

    /** Nothing of a state in which everything is in use is left after a setup. */
    private static void promise4Busy() {
        String setup = "rights;pasture a 4;herd r 1;herd p 1;herd q 3;herd s 2;";
        PastureBanker b = Check.loaded(setup);
        Check.run(b, "request p a 1;request q a 3;request r a 1;request s a 2;release q a 1;"
                + "release r a 1;request q a 1;request r a 1;cancel s;lend r p 5;");
        due("4 r waits", "r:0? p:1 q:3 s:0", () -> Check.output(b));
        due("4 all is in use", "3 1 3 1", () -> Look.counters(b));
        due("4 p owes", 5, () -> b.totalDebt(1));
        b.bestToFinish();
        Check.put(b, setup);
        b.load();
        due("4 no units", "r:0 p:0 q:0 s:0", () -> Check.output(b));
        due("4 no queue", 0, b::queueLength);
        due("4 no debts", 0, () -> b.totalDebt(1));
        due("4 no counts", "0 0 0 0", () -> Look.counters(b));
    }

    private static void promise4Error() {
        PastureBanker b = queued();
        b.lend(0, 1, 5);
        b.save(1);
        Check.put(b, "rights;pasture m 8;pasture n 7;herd q 3 4;herd p 5 6;herd u 0");
        due("4 load with an error", ARGUMENT, b::load);
        due("4 buffer is empty", ARGUMENT, () -> b.truncate(1));
        due("4 herds stay", 4, b::herdCount);
        due("4 pastures stay", 1, b::pastureCount);
        due("4 names stay", "p q", () -> Look.herdName(b, 0) + " " + Look.herdName(b, 1));
        due("4 capacity stays", 4, () -> b.capacity(0));
        due("4 allocation stays", 3, () -> b.allocation(1, 0));
        due("4 debt stays", 5, () -> b.debt(1, 0));
        due("4 queue stays", "2 3 ", () -> Look.queue(b));
        due("4 counters stay", "2 0 2 0", () -> Look.counters(b));
        due("4 undo stays", 4, b::undo);
        due("4 saved stays", 2, () -> b.restore(1));
        due("4 empty text", ARGUMENT, b::load);
    }

    private static void promises5And6() {
        PastureBanker b = new PastureBanker();
        Check.put(b, "rights;pasture a 51;");
        due("5 error", ARGUMENT, b::load);
        due("5 code", 2, b::errorCode);
        due("6 position", 17, b::errorPosition);
        b.append(0, 0, 0, 0, 0);
        b.truncate(0);
        b.request(0, 0, 1);
        b.undo();
        due("5 code stays", 2, b::errorCode);
        due("6 position stays", 17, b::errorPosition);
        Check.put(b, "finish zoe;");
        due("5 error of a script", ARGUMENT, b::runScript);
        due("5 code of a script", 3, b::errorCode);
        due("6 position of a script", 7, b::errorPosition);
        due("5 fine script", 1, () -> Check.run(b, "finish ann;"));
        due("5 no error", 0, b::errorCode);
        due("6 no error", -1, b::errorPosition);
        Check.put(b, "x");
        due("5 error at the first byte", ARGUMENT, b::load);
        due("5 code 1", 1, b::errorCode);
        due("6 position 0", 0, b::errorPosition);
        due("5 script that stops at once", 0, () -> Check.run(b, "cancel ann;"));
        due("5 no error", 0, b::errorCode);
        Check.put(b, "finish ann;".repeat(31));
        due("5 31 commands", ARGUMENT, b::runScript);
        due("5 code 4", 4, b::errorCode);
        due("6 position 330", 330, b::errorPosition);
        b.save(0);
        b.restore(0);
        due("5 restore leaves the code", 4, b::errorCode);
        Check.put(b, "rights;pasture a 5;herd x 5;");
        due("5 fine setup", 1, b::load);
        due("5 no error", 0, b::errorCode);
        due("6 no error", -1, b::errorPosition);
    }

    // ---- pastures and herds

    private static void promises7And8() {
        PastureBanker small = Check.loaded("rights;pasture a 1;herd x 1;");
        due("7 one pasture", 1, small::pastureCount);
        due("8 one herd", 1, small::herdCount);
        PastureBanker large = Check.loaded("rights;pasture a 1;pasture b 1;pasture c 1;pasture d 1;"
                + "pasture e 1;herd a 1 1 1 1 1;herd b 1 1 1 1 1;herd c 1 1 1 1 1;herd d 1 1 1 1 1;"
                + "herd e 1 1 1 1 1;herd f 1 1 1 1 1;herd g 1 1 1 1 1;herd h 1 1 1 1 1;");
        due("7 five pastures", 5, large::pastureCount);
        due("8 eight herds", 8, large::herdCount);
    }

    private static void promises9And10() {
        PastureBanker b = shared();
        due("9 capacity", "10 5 7",
                () -> b.capacity(0) + " " + b.capacity(1) + " " + b.capacity(2));
        due("10 available", "3 3 2",
                () -> b.available(0) + " " + b.available(1) + " " + b.available(2));
        noPasture("9 capacity", b, b::capacity);
        noPasture("10 available", b, b::available);
        PastureBanker edges = Check.loaded("rights;pasture a 0;pasture b 50;herd x 0 50;");
        due("9 capacity 0", 0, () -> edges.capacity(0));
        due("9 capacity 50", 50, () -> edges.capacity(1));
        due("10 available 0", 0, () -> edges.available(0));
        due("10 available 50", 50, () -> edges.available(1));
        due("10 take all", true, () -> edges.request(0, 1, 50));
        due("10 nothing left", 0, () -> edges.available(1));
        noPasture("9 capacity", edges, edges::capacity);
    }

    private static void promises11To13() {
        PastureBanker b = shared();
        due("11 maximum", "7 5 3 9 0 2", () -> b.maximum(0, 0) + " " + b.maximum(0, 1) + " "
                + b.maximum(0, 2) + " " + b.maximum(2, 0) + " " + b.maximum(2, 1) + " "
                + b.maximum(2, 2));
        due("12 allocation", "0 1 0 3 0 2", () -> b.allocation(0, 0) + " " + b.allocation(0, 1)
                + " " + b.allocation(0, 2) + " " + b.allocation(2, 0) + " " + b.allocation(2, 1)
                + " " + b.allocation(2, 2));
        due("13 need", "7 4 3 6 0 0", () -> b.need(0, 0) + " " + b.need(0, 1) + " " + b.need(0, 2)
                + " " + b.need(2, 0) + " " + b.need(2, 1) + " " + b.need(2, 2));
        noHerd("11 maximum", b, herd -> b.maximum(herd, 0));
        noPasture("11 maximum", b, pasture -> b.maximum(0, pasture));
        noHerd("12 allocation", b, herd -> b.allocation(herd, 0));
        noPasture("12 allocation", b, pasture -> b.allocation(0, pasture));
        noHerd("13 need", b, herd -> b.need(herd, 0));
        noPasture("13 need", b, pasture -> b.need(0, pasture));
    }

    private static void promises14And15() {
        PastureBanker b = Check.loaded(
                "rights;pasture abcdef 1;pasture z 1;herd uvwxyz 1 1;herd m 1 1;herd anna 0 0;");
        due("14 names", "uvwxyz m anna",
                () -> Look.herdName(b, 0) + " " + Look.herdName(b, 1) + " " + Look.herdName(b, 2));
        due("15 names", "abcdef z", () -> Look.pastureName(b, 0) + " " + Look.pastureName(b, 1));
        due("14 last letter", (int) 'z', () -> b.herdNameByte(0, 5));
        due("14 index 6", INDEX, () -> b.herdNameByte(0, 6));
        due("14 index 1 of one letter", INDEX, () -> b.herdNameByte(1, 1));
        due("14 index -1", INDEX, () -> b.herdNameByte(1, -1));
        due("14 the least index", INDEX, () -> b.herdNameByte(1, LEAST));
        due("14 the greatest index", INDEX, () -> b.herdNameByte(1, GREATEST));
        due("15 last letter", (int) 'f', () -> b.pastureNameByte(0, 5));
        due("15 index 6", INDEX, () -> b.pastureNameByte(0, 6));
        due("15 index 1 of one letter", INDEX, () -> b.pastureNameByte(1, 1));
        due("15 index -1", INDEX, () -> b.pastureNameByte(1, -1));
        due("15 the greatest index", INDEX, () -> b.pastureNameByte(0, GREATEST));
        noHerd("14 herdNameByte", b, herd -> b.herdNameByte(herd, 0));
        noPasture("15 pastureNameByte", b, pasture -> b.pastureNameByte(pasture, 0));
    }

    private static Object found(String name) {
        PastureBanker b = Check.loaded("rights;pasture hill 1;herd ann 1;herd an 1;herd annann 1;");
        Check.put(b, name);
        return b.findHerd();
    }

    private static void promise16() {
        Class<?> none = NoSuchElementException.class;
        due("16 ann", 0, () -> found("ann"));
        due("16 an", 1, () -> found("an"));
        due("16 annann", 2, () -> found("annann"));
        due("16 a", none, () -> found("a"));
        due("16 annan", none, () -> found("annan"));
        due("16 annannx", none, () -> found("annannx"));
        due("16 ann and a space", none, () -> found("ann "));
        due("16 a space and ann", none, () -> found(" ann"));
        due("16 Ann", none, () -> found("Ann"));
        due("16 a pasture", none, () -> found("hill"));
        due("16 an empty buffer", none, () -> found(""));
        due("16 a long buffer", none, () -> found("ann".repeat(200)));
        due("16 a name of before the setup", none, () -> found("bob"));
        PastureBanker b = new PastureBanker();
        Check.put(b, "eve");
        due("16 eve", 4, b::findHerd);
        due("16 again", 4, b::findHerd);
        due("16 the buffer stays", 3, () -> b.truncate(3));
        due("16 the buffer stays", ARGUMENT, () -> b.truncate(4));
    }

    // ---- safety

    private static void promises17And18() {
        PastureBanker b = shared();
        due("17 safe", true, b::isSafe);
        due("18 safe order", "1 3 0 2 4 ", () -> Look.safeOrder(b));
        due("18 position -1", -1, () -> b.safeOrder(-1));
        due("18 position 5", -1, () -> b.safeOrder(5));
        due("18 the least", -1, () -> b.safeOrder(LEAST));
        due("18 the greatest", -1, () -> b.safeOrder(GREATEST));
        // bob and dot finish with 2 3 2 and leave 6 4 3: ann needs 7.
        b.setCapacity(0, 9);
        due("17 ann and cid fit later", true, b::isSafe);
        b.setCapacity(0, 7);
        // Available 0 3 2: dot finishes and leaves 2 4 3, bob 4 4 3, eve 4 4 5: all need more.
        due("17 not safe", false, b::isSafe);
        due("18 not safe", "-1 -1 -1 -1 -1 ", () -> Look.safeOrder(b));
        PastureBanker d = deadlocked();
        due("17 deadlocked", false, d::isSafe);
        due("18 deadlocked", -1, () -> d.safeOrder(0));
    }

    private static void promise18Order() {
        due("18 all can finish", "0 1 2 3 4 ", () -> Look.safeOrder(new PastureBanker()));
        // Only c can finish at first, then b, and then a comes before d.
        PastureBanker b = Check.loaded("rights;pasture m 6;herd a 6;herd b 4;herd c 3;herd d 6;");
        b.request(2, 0, 2);
        b.request(1, 0, 2);
        b.request(0, 0, 1);
        due("18 c, b, a, d", "2 1 0 3 ", () -> Look.safeOrder(b));
    }

    private static void promise19() {
        PastureBanker b = shared();
        due("19 ann", false, () -> b.canFinish(0));
        due("19 bob", true, () -> b.canFinish(1));
        due("19 cid", false, () -> b.canFinish(2));
        due("19 dot", true, () -> b.canFinish(3));
        due("19 eve", false, () -> b.canFinish(4));
        b.setCapacity(0, 11);
        due("19 eve with just enough", true, () -> b.canFinish(4));
        b.setMaximum(4, 2, 5);
        due("19 eve with too little of the last", false, () -> b.canFinish(4));
        noHerd("19 canFinish", b, b::canFinish);
    }

    private static void promise20() {
        PastureBanker b = shared();
        due("20 granted", 0, () -> b.whyNotGranted(1, 0, 1));
        due("20 need and available", 2, () -> b.whyNotGranted(0, 0, 8));
        due("20 just the need", 3, () -> b.whyNotGranted(0, 0, 7));
        due("20 just the available units", 0, () -> b.whyNotGranted(0, 0, 3));
        due("20 just the available units, but not safe", 4, () -> b.whyNotGranted(0, 1, 3));
        due("20 above the available units", 3, () -> b.whyNotGranted(0, 0, 4));
        due("20 nothing has changed", 0, () -> b.allocation(0, 0));
        due("20 nothing has changed", 8, b::immediateGrants);
        PastureBanker q = queued();
        due("20 waiting", 1, () -> q.whyNotGranted(2, 0, 1));
        due("20 waiting and above the need", 1, () -> q.whyNotGranted(2, 0, 50));
        due("20 above the need", 2, () -> q.whyNotGranted(0, 0, 1));
        due("20 the queue does not matter", 2, q::queueLength);
        q.cancel(2);
        due("20 above the available units", 3, () -> q.whyNotGranted(2, 0, 1));
        PastureBanker d = Check.loaded("rights;pasture a 1;pasture b 1;herd x 1 1;herd y 1 1;");
        due("20 x takes a", true, () -> d.request(0, 0, 1));
        due("20 y may not take b", 4, () -> d.whyNotGranted(1, 1, 1));
        due("20 x may take b", 0, () -> d.whyNotGranted(0, 1, 1));
    }

    private static void promise20Errors() {
        PastureBanker b = queued();
        noHerd("20 whyNotGranted", b, herd -> b.whyNotGranted(herd, 0, 1));
        noPasture("20 whyNotGranted", b, pasture -> b.whyNotGranted(0, pasture, 1));
        due("20 amount 0", ARGUMENT, () -> b.whyNotGranted(0, 0, 0));
        due("20 amount 51", ARGUMENT, () -> b.whyNotGranted(0, 0, 51));
        due("20 amount -1", ARGUMENT, () -> b.whyNotGranted(2, 0, -1));
        due("20 the least amount", ARGUMENT, () -> b.whyNotGranted(0, 0, LEAST));
        due("20 the greatest amount", ARGUMENT, () -> b.whyNotGranted(0, 0, GREATEST));
        due("20 amount 50", 2, () -> b.whyNotGranted(0, 0, 50));
        due("20 no herd before amount", INDEX, () -> b.whyNotGranted(4, 0, 0));
        due("20 no pasture before amount", INDEX, () -> b.whyNotGranted(0, 1, 51));
    }

    private static void promise21() {
        PastureBanker b = shared();
        due("21 bob all", 1, () -> b.largestGrant(1, 0));
        due("21 bob fen", 2, () -> b.largestGrant(1, 1));
        due("21 ann fen", 2, () -> b.largestGrant(0, 1));
        due("21 eve hill", 3, () -> b.largestGrant(4, 0));
        due("21 no need", 0, () -> b.largestGrant(2, 1));
        for (int herd = 0; herd < 5; herd++) {
            for (int pasture = 0; pasture < 3; pasture++) {
                int h = herd;
                int p = pasture;
                int most = 0;
                PastureBanker asked = shared();
                for (int amount = 1; amount <= 50; amount++) {
                    most = asked.whyNotGranted(h, p, amount) == 0 ? amount : most;
                }
                due("21 of " + h + " on " + p, most, () -> asked.largestGrant(h, p));
            }
        }
        PastureBanker q = queued();
        q.setCapacity(0, 4);
        due("21 waiting", 0, () -> q.largestGrant(2, 0));
        PastureBanker full = Check.loaded("rights;pasture a 50;herd x 50;");
        due("21 all 50", 50, () -> full.largestGrant(0, 0));
        PastureBanker d = deadlocked();
        d.cancel(0);
        d.cancel(1);
        due("21 not safe", 0, () -> d.largestGrant(0, 1));
        PastureBanker one = Check.loaded("rights;pasture a 1;pasture b 1;herd x 1 1;herd y 1 1;");
        one.request(0, 0, 1);
        due("21 not even one of one unit", 0, () -> one.largestGrant(1, 1));
        due("21 one of one unit", 1, () -> one.largestGrant(0, 1));
        noHerd("21 largestGrant", b, herd -> b.largestGrant(herd, 0));
        noPasture("21 largestGrant", b, pasture -> b.largestGrant(0, pasture));
    }

    private static void promise22() {
        PastureBanker b = Check.loaded("rights;pasture a 6;pasture b 5;herd x 5 5;herd y 2 5;");
        due("22 the greatest claim", 5, () -> b.safeCapacity(0));
        due("22 the other pasture", 5, () -> b.safeCapacity(1));
        b.request(1, 0, 2);
        // y has all and finishes first: then 5 units do for x.
        due("22 y first", 5, () -> b.safeCapacity(0));
        due("22 nothing has changed", 6, () -> b.capacity(0));
        b.setMaximum(0, 0, 2);
        due("22 not below the allocations", 2, () -> b.safeCapacity(0));
        b.setCapacity(1, 4);
        due("22 the other one is too small", -1, () -> b.safeCapacity(0));
        due("22 this one helps", 5, () -> b.safeCapacity(1));
        PastureBanker zero = Check.loaded("rights;pasture a 5;herd x 0;");
        due("22 nobody claims", 0, () -> zero.safeCapacity(0));
        PastureBanker most = Check.loaded("rights;pasture a 50;herd x 50;");
        due("22 the greatest claim of all", 50, () -> most.safeCapacity(0));
        PastureBanker eight = Check.loaded("rights;pasture a 50;herd a 6;herd b 6;herd c 6;"
                + "herd d 6;herd e 6;herd f 6;herd g 6;herd h 6;");
        for (int herd = 0; herd < 8; herd++) {
            eight.request(herd, 0, 6);
        }
        for (int herd = 0; herd < 8; herd++) {
            eight.setMaximum(herd, 0, 50);
        }
        due("22 above 50", 92, () -> eight.safeCapacity(0));
        noPasture("22 safeCapacity", b, b::safeCapacity);
    }

    private static void promise23() {
        PastureBanker b = queued();
        due("23 q frees most", 1, b::bestToFinish);
        due("23 nothing has changed", "2 3 ", () -> Look.queue(b));
        due("23 no counter has changed", "2 0 2 0", () -> Look.counters(b));
        due("23 no allocation has changed", 3, () -> b.allocation(1, 0));
        PastureBanker one = queued();
        one.cancel(2);
        due("23 only q frees enough for s", 1, one::bestToFinish);
        b.cancel(3);
        due("23 the lowest number wins", 0, b::bestToFinish);
        b.cancel(2);
        due("23 nobody waits", 0, b::bestToFinish);
        // z waits itself and holds what the others wait for: its own request does not count.
        PastureBanker own = Check.loaded("rights;pasture a 2;herd w 1;herd x 1;herd y 1;herd z 2;");
        own.request(3, 0, 1);
        own.request(0, 0, 1);
        own.request(3, 0, 1);
        own.request(1, 0, 1);
        due("23 only x and z wait", "3 1 ", () -> Look.queue(own));
        due("23 w lets z go on, z lets x go on", 0, own::bestToFinish);
        PastureBanker none = deadlocked();
        due("23 each lets one go on", 0, none::bestToFinish);
    }

    // ---- queue and deadlocks

    private static void promises24To28() {
        PastureBanker b = queued();
        due("24 two wait", 2, b::queueLength);
        due("25 front", 2, () -> b.queuedHerd(0));
        due("25 back", 3, () -> b.queuedHerd(1));
        due("25 position 2", -1, () -> b.queuedHerd(2));
        due("25 position -1", -1, () -> b.queuedHerd(-1));
        due("25 the least", -1, () -> b.queuedHerd(LEAST));
        due("25 the greatest", -1, () -> b.queuedHerd(GREATEST));
        due("26 q does not wait", false, () -> b.isWaiting(1));
        due("26 r waits", true, () -> b.isWaiting(2));
        due("27 of r", 0, () -> b.requestedPasture(2));
        due("27 of q", -1, () -> b.requestedPasture(1));
        due("28 of r", 1, () -> b.requestedAmount(2));
        due("28 of s", 2, () -> b.requestedAmount(3));
        due("28 of q", 0, () -> b.requestedAmount(1));
        noHerd("26 isWaiting", b, b::isWaiting);
        noHerd("27 requestedPasture", b, b::requestedPasture);
        noHerd("28 requestedAmount", b, b::requestedAmount);
        b.cancel(2);
        due("24 one waits", 1, b::queueLength);
        due("25 s moves up", 3, () -> b.queuedHerd(0));
        due("25 position 1", -1, () -> b.queuedHerd(1));
        due("27 r no more", -1, () -> b.requestedPasture(2));
        due("28 r no more", 0, () -> b.requestedAmount(2));
        b.request(2, 0, 1);
        due("25 r is behind s now", "3 2 ", () -> Look.queue(b));
        b.cancel(2);
        due("25 s stays in front", "3 ", () -> Look.queue(b));
        PastureBanker d = deadlocked();
        due("27 x wants b", 1, () -> d.requestedPasture(0));
        due("27 y wants a", 0, () -> d.requestedPasture(1));
    }

    private static void promise29() {
        PastureBanker b = queued();
        due("29 r for p", true, () -> b.waitsFor(2, 0));
        due("29 r for q", true, () -> b.waitsFor(2, 1));
        due("29 r for s, which holds nothing", false, () -> b.waitsFor(2, 3));
        due("29 p for r", false, () -> b.waitsFor(0, 2));
        due("29 r for r", false, () -> b.waitsFor(2, 2));
        PastureBanker own = Check.loaded("rights;pasture a 2;herd x 2;herd y 1;");
        own.request(0, 0, 1);
        own.request(1, 0, 1);
        own.request(0, 0, 1);
        due("29 x waits", true, () -> own.isWaiting(0));
        due("29 x for y", true, () -> own.waitsFor(0, 1));
        due("29 x for x, which holds a unit", false, () -> own.waitsFor(0, 0));
        PastureBanker unsafe = Check.loaded("rights;pasture a 3;pasture b 1;herd x 3 1;herd y 3 1;");
        unsafe.request(0, 0, 1);
        unsafe.request(1, 0, 2);
        due("29 y waits for safety only", true, () -> unsafe.isWaiting(1));
        due("29 there are just enough units", false, () -> unsafe.waitsFor(1, 0));
        unsafe.request(0, 0, 1);
        due("29 there are too few units", true, () -> unsafe.waitsFor(1, 0));
        PastureBanker d = deadlocked();
        due("29 x for y", true, () -> d.waitsFor(0, 1));
        due("29 y for x", true, () -> d.waitsFor(1, 0));
        noHerd("29 waitsFor", b, herd -> b.waitsFor(herd, 0));
        noHerd("29 waitsFor", b, herd -> b.waitsFor(0, herd));
        noHerd("29 waitsFor both", b, herd -> b.waitsFor(herd, herd));
    }

    private static void promises30And31() {
        PastureBanker d = deadlocked();
        due("30 x", true, () -> d.isDeadlocked(0));
        due("30 y", true, () -> d.isDeadlocked(1));
        due("31 two", 2, d::deadlockedCount);
        d.setCapacity(0, 1);
        due("31 still two", 2, d::deadlockedCount);
        d.cancel(0);
        due("30 x no more", false, () -> d.isDeadlocked(0));
        due("30 y no more", false, () -> d.isDeadlocked(1));
        due("31 none", 0, d::deadlockedCount);
        PastureBanker q = queued();
        due("30 r waits but is not deadlocked", false, () -> q.isDeadlocked(2));
        due("31 none of the queue", 0, q::deadlockedCount);
        noHerd("30 isDeadlocked", q, q::isDeadlocked);
        noHerd("30 isDeadlocked", d, d::isDeadlocked);
        // Each pick frees what the herd in front of it waits for.
        PastureBanker chain = Check.loaded("rights;pasture a 1;pasture b 1;pasture c 1;"
                + "herd w 1 0 0;herd x 1 1 0;herd y 0 1 1;herd z 0 0 1;");
        Check.run(chain, "request x a 1;request y b 1;request z c 1;"
                + "request w a 1;request x b 1;request y c 1;");
        due("30 w, x and y wait", "0 1 2 ", () -> Look.queue(chain));
        due("31 nobody is deadlocked", 0, chain::deadlockedCount);
        due("30 w is picked last", false, () -> chain.isDeadlocked(0));
    }

    /** w waits for a as well, z holds nothing and does not wait: w is stuck, z is not. */
    private static void promises30And31Picks() {
        PastureBanker b = Check.loaded("rights;pasture a 1;pasture b 1;pasture c 2;"
                + "herd w 1 0 1;herd x 1 0 0;herd y 0 1 0;herd z 0 0 2;herd v 0 0 2;");
        b.request(1, 0, 1);
        b.request(2, 1, 1);
        b.request(0, 2, 1);
        b.setMaximum(1, 1, 1);
        b.setMaximum(2, 0, 1);
        b.request(1, 1, 1);
        b.request(2, 0, 1);
        b.request(0, 0, 1);
        due("30 w holds a unit of c and waits for a", true, () -> b.isDeadlocked(0));
        due("30 z", false, () -> b.isDeadlocked(3));
        due("31 w, x and y", 3, b::deadlockedCount);
        b.request(3, 2, 1);
        due("30 z waits, as the state is not safe, for what is free", false,
                () -> b.isDeadlocked(3));
        b.request(4, 2, 2);
        due("30 v waits for two units, one of which w holds", true, () -> b.isDeadlocked(4));
        due("31 v as well", 4, b::deadlockedCount);
    }

    // ---- debts

    private static void promises32To34() {
        PastureBanker b = indebted();
        due("32 0 owes 1", 10, () -> b.debt(0, 1));
        due("32 1 owes 0 nothing", 0, () -> b.debt(1, 0));
        due("32 of itself", 0, () -> b.debt(0, 0));
        due("32 2 owes 4", 40, () -> b.debt(2, 4));
        due("33 of 0", 90, () -> b.totalDebt(0));
        due("33 of 3", 160, () -> b.totalDebt(3));
        due("33 of 4", 0, () -> b.totalDebt(4));
        due("34 of 0", 0, () -> b.totalClaims(0));
        due("34 of 2", 180, () -> b.totalClaims(2));
        due("34 of 4", 120, () -> b.totalClaims(4));
        noHerd("32 debt", b, herd -> b.debt(herd, 0));
        noHerd("32 debt", b, herd -> b.debt(0, herd));
        noHerd("33 totalDebt", b, b::totalDebt);
        noHerd("34 totalClaims", b, b::totalClaims);
    }

    private static void promise35() {
        PastureBanker b = indebted();
        due("35 itself", 1, () -> b.closedCycleLength(3, 3));
        due("35 4 to 0: the shorter chain", 2, () -> b.closedCycleLength(4, 0));
        due("35 2 to 0", 3, () -> b.closedCycleLength(2, 0));
        due("35 4 to 1", 3, () -> b.closedCycleLength(4, 1));
        due("35 4 to 3", 3, () -> b.closedCycleLength(4, 3));
        due("35 1 to 0", 2, () -> b.closedCycleLength(1, 0));
        due("35 0 to 1, a debt that is there", -1, () -> b.closedCycleLength(0, 1));
        due("35 0 to 3", -1, () -> b.closedCycleLength(0, 3));
        due("35 3 to 0", -1, () -> b.closedCycleLength(3, 0));
        PastureBanker chain = chain();
        due("35 the longest cycle", 8, () -> chain.closedCycleLength(7, 0));
        due("35 the other way", -1, () -> chain.closedCycleLength(0, 7));
        noHerd("35 closedCycleLength", b, herd -> b.closedCycleLength(herd, 0));
        noHerd("35 closedCycleLength", b, herd -> b.closedCycleLength(0, herd));
        noHerd("35 closedCycleLength", b, herd -> b.closedCycleLength(herd, herd));
    }

    /** Herd 0 owes herd 1, herd 1 owes herd 2, and so on to herd 7. */
    private static PastureBanker chain() {
        PastureBanker b = Check.loaded("rights;pasture m 1;herd a 0;herd b 0;herd c 0;herd d 0;"
                + "herd e 0;herd f 0;herd g 0;herd h 0;");
        for (int herd = 0; herd < 7; herd++) {
            b.lend(herd + 1, herd, herd + 1);
        }
        return b;
    }

    private static void promise36() {
        PastureBanker b = indebted();
        due("36 of 0: the longer chain", 3, () -> b.debtDepth(0));
        due("36 of 1", 2, () -> b.debtDepth(1));
        due("36 of 2", 1, () -> b.debtDepth(2));
        due("36 of 3", 2, () -> b.debtDepth(3));
        due("36 of 4", 0, () -> b.debtDepth(4));
        due("36 of the longest chain", 7, () -> chain().debtDepth(0));
        due("36 of its end", 0, () -> chain().debtDepth(7));
        noHerd("36 debtDepth", b, b::debtDepth);
    }

    private static void promise37() {
        due("37 no debts", "0 1 2 3 4 ", () -> Look.settlement(new PastureBanker()));
        PastureBanker b = indebted();
        due("37 debtors first", "0 1 3 2 4 ", () -> Look.settlement(b));
        PastureBanker back = new PastureBanker();
        back.lend(0, 4, 1);
        back.lend(1, 0, 1);
        back.lend(2, 4, 1);
        due("37 4 before 0 and 2", "3 4 0 1 2 ", () -> Look.settlement(back));
        due("37 a chain", "0 1 2 3 4 5 6 7 ", () -> Look.settlement(chain()));
        due("37 position -1", INDEX, () -> b.settlementOrder(-1));
        due("37 position 5", INDEX, () -> b.settlementOrder(5));
        due("37 the least", INDEX, () -> b.settlementOrder(LEAST));
        due("37 the greatest", INDEX, () -> b.settlementOrder(GREATEST));
        due("37 position 8", INDEX, () -> chain().settlementOrder(8));
    }

    private static void promise38() {
        PastureBanker b = indebted();
        due("38 of 0", 0, () -> b.transitiveClaims(0));
        due("38 of 1", 10, () -> b.transitiveClaims(1));
        due("38 of 2: not what 0 owes 4", 190, () -> b.transitiveClaims(2));
        due("38 of 3", 0, () -> b.transitiveClaims(3));
        due("38 of 4", 310, () -> b.transitiveClaims(4));
        due("38 of the end of a chain", 28, () -> chain().transitiveClaims(7));
        due("38 of its middle", 6, () -> chain().transitiveClaims(3));
        noHerd("38 transitiveClaims", b, b::transitiveClaims);
    }

    // ---- statistics

    private static void promises39To42() {
        PastureBanker b = queued();
        due("39 to 42", "2 0 2 0", () -> Look.counters(b));
        b.release(0, 0, 1);
        due("40 r from the queue", "2 1 2 0", () -> Look.counters(b));
        b.cancel(3);
        due("42 by cancel", "2 1 2 1", () -> Look.counters(b));
        b.finish(2);
        due("42 not by finish of one that does not wait", "2 1 2 1", () -> Look.counters(b));
        due("39 p at once", true, () -> b.request(0, 0, 1));
        due("39 p at once", "3 1 2 1", () -> Look.counters(b));
        due("41 s waits", false, () -> b.request(3, 0, 2));
        due("41 s waits", "3 1 3 1", () -> Look.counters(b));
        b.finish(3);
        due("42 by finish", "3 1 3 2", () -> Look.counters(b));
        due("39 a request that throws", STATE, () -> b.request(0, 0, 1));
        due("39 is not counted", "3 1 3 2", () -> Look.counters(b));
        Check.put(b, "rights;pasture a 4;herd p 1;");
        b.load();
        due("39 to 42 after a setup", "0 0 0 0", () -> Look.counters(b));
    }

    private static void promise43() {
        PastureBanker b = new PastureBanker();
        due("43 nothing", 0.0f, () -> b.utilization(0));
        b.request(0, 1, 4);
        due("43 four of five", 4.0f / 5.0f, () -> b.utilization(1));
        b.request(1, 2, 1);
        b.request(2, 2, 1);
        due("43 two of seven", 2.0f / 7.0f, () -> b.utilization(2));
        due("43 is a float", 0.2857143f, () -> b.utilization(2));
        b.setCapacity(0, 0);
        due("43 capacity 0", 0.0f, () -> b.utilization(0));
        PastureBanker full = Check.loaded("rights;pasture a 50;herd x 50;");
        full.request(0, 0, 50);
        due("43 all", 1.0f, () -> full.utilization(0));
        noPasture("43 utilization", b, b::utilization);
    }

    private static void promise44() {
        due("44 no debts", 0.0, () -> new PastureBanker().meanDebt());
        PastureBanker b = indebted();
        due("44 five debts", 62.0, b::meanDebt);
        b.repay(0, 1, 10);
        due("44 four debts", 75.0, b::meanDebt);
        b.lend(4, 2, 1);
        due("44 four debts still", 301.0 / 4.0, b::meanDebt);
        PastureBanker third = new PastureBanker();
        third.lend(0, 1, 1);
        third.lend(0, 2, 1);
        third.lend(0, 3, 2);
        due("44 is a double", 4.0 / 3.0, third::meanDebt);
        third.repay(1, 0, 1);
        third.repay(2, 0, 1);
        third.repay(3, 0, 2);
        due("44 all repaid", 0.0, third::meanDebt);
    }

    private static void promise45() {
        due("45 new", 0, () -> new PastureBanker().inconsistencies());
        due("45 shared", 0, () -> shared().inconsistencies());
        due("45 queued", 0, () -> queued().inconsistencies());
        due("45 deadlocked", 0, () -> deadlocked().inconsistencies());
        due("45 indebted", 0, () -> indebted().inconsistencies());
        PastureBanker b = queued();
        b.finish(1);
        b.finish(2);
        b.finish(3);
        due("45 after grants and withdrawals", 0, b::inconsistencies);
        b.undo();
        b.undo();
        due("45 after undo", 0, b::inconsistencies);
        PastureBanker c = queued();
        c.cancel(2);
        due("45 after cancel", 0, c::inconsistencies);
        c.finish(3);
        due("45 after finish", 0, c::inconsistencies);
    }

    // ---- changes

    private static void promise46() {
        PastureBanker b = shared();
        due("46 granted", true, () -> b.request(1, 0, 1));
        due("46 allocation", 3, () -> b.allocation(1, 0));
        due("46 available", 2, () -> b.available(0));
        due("46 too many", false, () -> b.request(4, 0, 3));
        due("46 waits", true, () -> b.isWaiting(4));
        due("46 allocation stays", 0, () -> b.allocation(4, 0));
        due("46 available stays", 2, () -> b.available(0));
        due("46 the queue does not matter", true, () -> b.request(3, 1, 1));
        due("46 others are granted", "10 0 1 0", () -> Look.counters(b));
        PastureBanker d = Check.loaded("rights;pasture a 1;pasture b 1;herd x 1 1;herd y 1 1;");
        due("46 x takes a", true, () -> d.request(0, 0, 1));
        due("46 y would make it unsafe", false, () -> d.request(1, 1, 1));
        PastureBanker full = Check.loaded("rights;pasture a 50;herd x 50;");
        due("46 amount 50", true, () -> full.request(0, 0, 50));
        due("46 more than the need", STATE, () -> full.request(0, 0, 1));
        PastureBanker served = queued();
        served.setCapacity(0, 5);
        served.cancel(3);
        due("46 r was granted", 1, () -> served.allocation(2, 0));
    }

    private static void promise46Errors() {
        PastureBanker b = queued();
        noHerd("46 request", b, herd -> requestOrUndo(b, herd, 0));
        noPasture("46 request", b, pasture -> requestOrUndo(b, 0, pasture));
        due("46 no herd before amount", INDEX, () -> b.request(4, 0, 0));
        due("46 no pasture before amount", INDEX, () -> b.request(0, 1, 51));
        due("46 amount 0", ARGUMENT, () -> b.request(0, 0, 0));
        due("46 amount 51", ARGUMENT, () -> b.request(0, 0, 51));
        due("46 amount before waiting", ARGUMENT, () -> b.request(2, 0, 0));
        due("46 the least amount", ARGUMENT, () -> b.request(2, 0, LEAST));
        due("46 the greatest amount", ARGUMENT, () -> b.request(2, 0, GREATEST));
        due("46 waiting", STATE, () -> b.request(2, 0, 1));
        due("46 above the need", STATE, () -> b.request(0, 0, 1));
        due("46 amount 1 of need 1", false, () -> b.cancel(2) < 0 || b.request(2, 0, 1));
        due("46 amount 2 of need 2", STATE, () -> b.request(3, 0, 2));
        due("46 nothing has changed", "2 0 3 1", () -> Look.counters(b));
        due("46 nothing has changed", "3 2 ", () -> Look.queue(b));
    }

    private static Object requestOrUndo(PastureBanker b, int herd, int pasture) {
        try {
            boolean granted = b.request(herd, pasture, 1);
            b.undo();
            return granted;
        } catch (IllegalStateException e) {
            return e;
        }
    }

    private static void promise47() {
        PastureBanker b = shared();
        due("47 nothing waits", 0, () -> b.release(2, 0, 1));
        due("47 allocation", 2, () -> b.allocation(2, 0));
        due("47 available", 4, () -> b.available(0));
        due("47 all the rest", 0, () -> b.release(2, 0, 2));
        due("47 allocation 0", 0, () -> b.allocation(2, 0));
        due("47 one more", STATE, () -> b.release(2, 0, 1));
        due("47 more than it holds", STATE, () -> b.release(2, 2, 3));
        due("47 amount 50", STATE, () -> b.release(2, 2, 50));
        due("47 amount 51", ARGUMENT, () -> b.release(2, 2, 51));
        due("47 amount 0", ARGUMENT, () -> b.release(2, 2, 0));
        due("47 the least amount", ARGUMENT, () -> b.release(2, 2, LEAST));
        due("47 the greatest amount", ARGUMENT, () -> b.release(2, 2, GREATEST));
        due("47 no herd before amount", INDEX, () -> b.release(5, 0, 0));
        due("47 no pasture before amount", INDEX, () -> b.release(0, 3, 51));
        due("47 herd -1", INDEX, () -> b.release(-1, 0, 1));
        due("47 pasture -1", INDEX, () -> b.release(0, -1, 1));
        due("47 the greatest herd", INDEX, () -> b.release(GREATEST, 0, 1));
        due("47 the least pasture", INDEX, () -> b.release(0, LEAST, 1));
        due("47 nothing has changed", 2, () -> b.allocation(2, 2));
        PastureBanker full = Check.loaded("rights;pasture a 50;herd x 50;");
        full.request(0, 0, 50);
        due("47 all 50", 0, () -> full.release(0, 0, 50));
        due("47 all 50 are free", 50, () -> full.available(0));
    }

    private static void promise47Queue() {
        PastureBanker b = queued();
        due("47 r is granted", 1, () -> b.release(1, 0, 1));
        due("47 s is not", "3 ", () -> Look.queue(b));
        due("47 too few for s", 0, () -> b.release(0, 0, 1));
        due("47 s is granted", 1, () -> b.release(1, 0, 1));
        due("47 the queue is empty", 0, b::queueLength);
        due("47 allocations", "p:0 q:1 r:1 s:2", () -> Check.output(b));
        PastureBanker front = queued();
        front.cancel(2);
        front.request(2, 0, 1);
        due("47 s is in front", "3 2 ", () -> Look.queue(front));
        due("47 r is granted behind s", 1, () -> front.release(1, 0, 1));
        due("47 s still waits", "3 ", () -> Look.queue(front));
        PastureBanker later = queued();
        due("47 two at once", 2, () -> later.release(1, 0, 3));
        due("47 granted", "2 2 2 0", () -> Look.counters(later));
        PastureBanker unsafe = Check.loaded("rights;pasture a 2;herd x 2;herd y 2;");
        unsafe.request(0, 0, 1);
        unsafe.request(1, 0, 1);
        due("47 y waits, as x needs the second unit", "1 ", () -> Look.queue(unsafe));
        due("47 y is granted", 1, () -> unsafe.release(0, 0, 1));
        due("47 waiting herd releases", 0, () -> waitingHerdReleases());
    }

    private static int waitingHerdReleases() {
        PastureBanker b = Check.loaded("rights;pasture a 2;herd x 2;herd y 1;");
        b.request(0, 0, 1);
        b.request(1, 0, 1);
        b.request(0, 0, 1);
        // x gives its unit back and gets it again: it asks for one unit, and one is free then.
        return b.release(0, 0, 1) - 1;
    }

    private static void promise48() {
        PastureBanker b = queued();
        due("48 q", 2, () -> b.finish(1));
        due("48 q holds nothing", 0, () -> b.allocation(1, 0));
        due("48 q keeps its claim", 3, () -> b.maximum(1, 0));
        due("48 granted", "2 2 2 0", () -> Look.counters(b));
        PastureBanker own = queued();
        due("48 r, which waits", 0, () -> own.finish(2));
        due("48 r waits no more", "3 ", () -> Look.queue(own));
        due("48 withdrawn", "2 0 2 1", () -> Look.counters(own));
        due("48 p, which lets nobody go on", 0, () -> own.finish(0));
        due("48 again", 0, () -> own.finish(0));
        PastureBanker all = shared();
        all.lend(0, 2, 7);
        due("48 of all pastures", 0, () -> all.finish(2));
        due("48 holds nothing", "0 0 0", () -> all.allocation(2, 0) + " " + all.allocation(2, 1)
                + " " + all.allocation(2, 2));
        due("48 available", "6 3 4",
                () -> all.available(0) + " " + all.available(1) + " " + all.available(2));
        due("48 debts stay", 7, () -> all.debt(2, 0));
        due("48 herd -1", INDEX, () -> all.finish(-1));
        due("48 herd 5", INDEX, () -> all.finish(5));
        due("48 the least", INDEX, () -> all.finish(LEAST));
        due("48 the greatest", INDEX, () -> all.finish(GREATEST));
        due("48 the last herd", 0, () -> all.finish(4));
        // x waits for a, which it holds itself: its request is withdrawn, so it is not granted.
        PastureBanker self = Check.loaded("rights;pasture a 2;herd x 2;herd y 1;");
        self.request(0, 0, 1);
        self.request(1, 0, 1);
        self.request(0, 0, 1);
        due("48 its own request is not granted", 0, () -> self.finish(0));
        due("48 it holds nothing", 0, () -> self.allocation(0, 0));
    }

    private static void promise49() {
        PastureBanker b = queued();
        due("49 r", 0, () -> b.cancel(2));
        due("49 r waits no more", false, () -> b.isWaiting(2));
        due("49 s still waits", "3 ", () -> Look.queue(b));
        due("49 withdrawn", "2 0 2 1", () -> Look.counters(b));
        due("49 r again", STATE, () -> b.cancel(2));
        due("49 q does not wait", STATE, () -> b.cancel(1));
        due("49 herd -1", INDEX, () -> b.cancel(-1));
        due("49 herd 4", INDEX, () -> b.cancel(4));
        due("49 the least", INDEX, () -> b.cancel(LEAST));
        due("49 the greatest", INDEX, () -> b.cancel(GREATEST));
        due("49 nothing has changed", "2 0 2 1", () -> Look.counters(b));
    }

    private static void promise50() {
        PastureBanker b = queued();
        due("50 one more unit", 1, () -> b.setCapacity(0, 5));
        due("50 capacity", 5, () -> b.capacity(0));
        due("50 r was granted", 1, () -> b.allocation(2, 0));
        due("50 s waits", "3 ", () -> Look.queue(b));
        due("50 below the allocations", STATE, () -> b.setCapacity(0, 4));
        due("50 just the allocations", 0, () -> b.setCapacity(0, 5));
        due("50 capacity 0", STATE, () -> b.setCapacity(0, 0));
        due("50 capacity 51", ARGUMENT, () -> b.setCapacity(0, 51));
        due("50 capacity -1", ARGUMENT, () -> b.setCapacity(0, -1));
        due("50 the least", ARGUMENT, () -> b.setCapacity(0, LEAST));
        due("50 the greatest", ARGUMENT, () -> b.setCapacity(0, GREATEST));
        due("50 no pasture before capacity", INDEX, () -> b.setCapacity(1, 51));
        due("50 pasture -1", INDEX, () -> b.setCapacity(-1, 5));
        due("50 the least pasture", INDEX, () -> b.setCapacity(LEAST, 5));
        due("50 the greatest pasture", INDEX, () -> b.setCapacity(GREATEST, 5));
        due("50 nothing has changed", 5, () -> b.capacity(0));
        due("50 capacity 50", 1, () -> b.setCapacity(0, 50));
        due("50 available", 43, () -> b.available(0));
        PastureBanker unsafe = new PastureBanker();
        due("50 to 0", 0, () -> unsafe.setCapacity(2, 0));
        due("50 is not safe", false, unsafe::isSafe);
        due("50 the claim may be above the capacity", 3, () -> unsafe.maximum(0, 2));
        due("50 the others stay", "10 5", () -> unsafe.capacity(0) + " " + unsafe.capacity(1));
    }

    private static void promise51() {
        PastureBanker b = shared();
        due("51 lower", 0, () -> b.setMaximum(0, 0, 5));
        due("51 maximum", 5, () -> b.maximum(0, 0));
        due("51 need", 5, () -> b.need(0, 0));
        due("51 just the allocation", 0, () -> b.setMaximum(2, 0, 3));
        due("51 below the allocation", STATE, () -> b.setMaximum(2, 0, 2));
        due("51 to 0", 0, () -> b.setMaximum(0, 0, 0));
        due("51 to 0 with an allocation", STATE, () -> b.setMaximum(2, 2, 0));
        due("51 above the capacity", 0, () -> b.setMaximum(0, 1, 50));
        due("51 is not safe", false, b::isSafe);
        due("51 to 51", ARGUMENT, () -> b.setMaximum(0, 1, 51));
        due("51 to -1", ARGUMENT, () -> b.setMaximum(0, 1, -1));
        due("51 to the least", ARGUMENT, () -> b.setMaximum(0, 1, LEAST));
        due("51 to the greatest", ARGUMENT, () -> b.setMaximum(0, 1, GREATEST));
        due("51 no herd before maximum", INDEX, () -> b.setMaximum(5, 0, 51));
        due("51 no pasture before maximum", INDEX, () -> b.setMaximum(0, 3, -1));
        due("51 herd -1", INDEX, () -> b.setMaximum(-1, 0, 5));
        due("51 pasture -1", INDEX, () -> b.setMaximum(0, -1, 5));
        due("51 the greatest herd", INDEX, () -> b.setMaximum(GREATEST, 0, 5));
        due("51 the least pasture", INDEX, () -> b.setMaximum(0, LEAST, 5));
        due("51 nothing has changed", 50, () -> b.maximum(0, 1));
    }

    private static void promise51Pending() {
        PastureBanker b = Check.loaded("rights;pasture a 4;pasture b 4;herd x 4 4;herd y 4 4;");
        b.request(0, 0, 3);
        b.request(1, 0, 2);
        due("51 y waits for 2 of a", 2, () -> b.requestedAmount(1));
        due("51 below the request", STATE, () -> b.setMaximum(1, 0, 1));
        due("51 the request is of another pasture", 0, () -> b.setMaximum(1, 1, 0));
        due("51 just the request", 0, () -> b.setMaximum(1, 0, 2));
        due("51 of a herd that does not wait", 0, () -> b.setMaximum(0, 0, 3));
        PastureBanker both = Check.loaded("rights;pasture a 5;herd x 4;herd y 4;");
        both.request(0, 0, 2);
        both.request(1, 0, 1);
        both.request(1, 0, 2);
        due("51 y holds 1 and waits for 2", "1 2",
                () -> both.allocation(1, 0) + " " + both.requestedAmount(1));
        due("51 below both", STATE, () -> both.setMaximum(1, 0, 2));
        due("51 just both: y could finish with it", 1, () -> both.setMaximum(1, 0, 3));
        due("51 y was granted", 3, () -> both.allocation(1, 0));
    }

    private static void promise52() {
        PastureBanker b = new PastureBanker();
        due("52 lend", 10, () -> b.lend(0, 1, 10));
        due("52 more", 15, () -> b.lend(0, 1, 5));
        due("52 1 owes 0", 15, () -> b.debt(1, 0));
        due("52 0 owes 1 nothing", 0, () -> b.debt(0, 1));
        due("52 to 999", 999, () -> b.lend(0, 1, 984));
        due("52 above 999", STATE, () -> b.lend(0, 1, 1));
        due("52 999 at once", 999, () -> b.lend(1, 2, 999));
        due("52 1000", ARGUMENT, () -> b.lend(3, 4, 1000));
        due("52 0", ARGUMENT, () -> b.lend(3, 4, 0));
        due("52 the least", ARGUMENT, () -> b.lend(3, 4, LEAST));
        due("52 the greatest", ARGUMENT, () -> b.lend(3, 4, GREATEST));
        due("52 to itself", STATE, () -> b.lend(3, 3, 1));
        due("52 a cycle of two", STATE, () -> b.lend(1, 0, 1));
        due("52 a cycle of three", STATE, () -> b.lend(2, 0, 1));
        due("52 no cycle", 1, () -> b.lend(0, 2, 1));
        due("52 above 999 by 998", 998, () -> b.lend(4, 3, 998));
        due("52 above 999 by 2", STATE, () -> b.lend(4, 3, 2));
        due("52 no creditor before amount", INDEX, () -> b.lend(5, 0, 0));
        due("52 no debtor before amount", INDEX, () -> b.lend(0, 5, 1000));
        due("52 creditor -1", INDEX, () -> b.lend(-1, 0, 1));
        due("52 debtor -1", INDEX, () -> b.lend(0, -1, 1));
        due("52 the greatest creditor", INDEX, () -> b.lend(GREATEST, 0, 1));
        due("52 the least debtor", INDEX, () -> b.lend(0, LEAST, 1));
        due("52 amount before itself", ARGUMENT, () -> b.lend(3, 3, 0));
        due("52 nothing has changed", "999 1 998 0", () -> b.debt(1, 0) + " " + b.debt(2, 0) + " "
                + b.debt(3, 4) + " " + b.debt(4, 3));
    }

    private static void promise53() {
        PastureBanker b = new PastureBanker();
        b.lend(0, 1, 999);
        b.lend(1, 2, 3);
        due("53 repay", 899, () -> b.repay(1, 0, 100));
        due("53 above the debt", STATE, () -> b.repay(1, 0, 900));
        due("53 no debt the other way", STATE, () -> b.repay(0, 1, 1));
        due("53 no debt to itself", STATE, () -> b.repay(1, 1, 1));
        due("53 all", 0, () -> b.repay(1, 0, 899));
        due("53 no debt any more", STATE, () -> b.repay(1, 0, 1));
        due("53 the cycle is open", 5, () -> b.lend(2, 0, 5));
        due("53 0", ARGUMENT, () -> b.repay(2, 1, 0));
        due("53 1000", ARGUMENT, () -> b.repay(2, 1, 1000));
        due("53 999", STATE, () -> b.repay(2, 1, 999));
        due("53 the least", ARGUMENT, () -> b.repay(2, 1, LEAST));
        due("53 the greatest", ARGUMENT, () -> b.repay(2, 1, GREATEST));
        due("53 no debtor before amount", INDEX, () -> b.repay(5, 0, 0));
        due("53 no creditor before amount", INDEX, () -> b.repay(0, 5, 1000));
        due("53 debtor -1", INDEX, () -> b.repay(-1, 0, 1));
        due("53 creditor -1", INDEX, () -> b.repay(0, -1, 1));
        due("53 the greatest debtor", INDEX, () -> b.repay(GREATEST, 0, 1));
        due("53 the least creditor", INDEX, () -> b.repay(0, LEAST, 1));
        due("53 nothing has changed", 3, () -> b.debt(2, 1));
        b.lend(3, 4, 999);
        due("53 999 at once", 0, () -> b.repay(4, 3, 999));
    }

    private static void promise54() {
        PastureBanker b = new PastureBanker();
        due("54 an empty script", 0, b::runScript);
        due("54 is a change", 0, b::undo);
        due("54 two commands", 2, () -> Check.run(b, "request ann hill 6;finish bob;"));
        due("54 ann", 6, () -> b.allocation(0, 0));
        due("54 the buffer is empty", ARGUMENT, () -> b.truncate(1));
        due("54 one change", 0, b::undo);
        due("54 ann again", 0, () -> b.allocation(0, 0));
        Check.put(b, "request ann hill 6;finish bob");
        due("54 an error", ARGUMENT, b::runScript);
        due("54 nothing is executed", 0, () -> b.allocation(0, 0));
        due("54 no change", STATE, b::undo);
        due("54 the buffer is empty", ARGUMENT, () -> b.truncate(1));
        due("54 30 commands", 30, () -> Check.run(b, "lend ann bob 1;".repeat(30)));
        due("54 30 coins", 30, () -> b.debt(1, 0));
        due("54 one change", 0, b::undo);
        due("54 no coins", 0, () -> b.debt(1, 0));
    }

    private static void promise54Commands() {
        PastureBanker b = Check.loaded("rights;pasture a 4;pasture p 9;herd p 1 0;herd q 3 0;"
                + "herd finish 1 0;herd s 2 9;");
        due("54 request", 4, () -> Check.run(b,
                "request p a 1;request q a 3;request finish a 1;request s a 2;"));
        due("54 state", "p:1,0 q:3,0 finish:0,0? s:0,0?", () -> Check.output(b));
        due("54 release", 1, () -> Check.run(b, "release q a 1;"));
        due("54 state", "p:1,0 q:2,0 finish:1,0 s:0,0?", () -> Check.output(b));
        due("54 cancel", 1, () -> Check.run(b, "cancel s;"));
        due("54 state", "p:1,0 q:2,0 finish:1,0 s:0,0", () -> Check.output(b));
        due("54 finish", 2, () -> Check.run(b, "finish finish;finish q;"));
        due("54 state", "p:1,0 q:0,0 finish:0,0 s:0,0", () -> Check.output(b));
        due("54 lend: the creditor first", 1, () -> Check.run(b, "lend p q 7;"));
        due("54 q owes p", 7, () -> b.debt(1, 0));
        due("54 repay: the debtor first", 1, () -> Check.run(b, "repay q p 3;"));
        due("54 q owes p", 4, () -> b.debt(1, 0));
        due("54 resize", 2, () -> Check.run(b, "resize p 50;resize a 1;"));
        due("54 capacities", "1 50", () -> b.capacity(0) + " " + b.capacity(1));
        due("54 a name of both kinds", 1, () -> Check.run(b, "request s p 9;"));
        due("54 no grant in an unsafe state", true, () -> b.isWaiting(3));
        due("54 granted when the capacity is there", 1, () -> Check.run(b, "resize a 4;"));
        due("54 s holds 9 of p", 9, () -> b.allocation(3, 1));
        due("54 counters", "2 2 3 1", () -> Look.counters(b));
    }

    private static void promise54Stops() {
        String[] wrong = {"cancel ann;", "request ann hill 0;", "request ann hill 51;",
            "request ann hill 8;", "release ann hill 7;", "release ann hill 0;",
            "release ann hill 999;", "lend ann ann 5;", "lend ann bob 0;", "lend bob ann 1;",
            "repay bob ann 6;", "repay ann bob 1;", "repay bob ann 0;", "resize hill 51;",
            "resize hill 5;"};
        for (String command : wrong) {
            PastureBanker b = new PastureBanker();
            String text = "request ann hill 6;lend ann bob 5;" + command + "lend ann cid 9;";
            due("54 stops at " + command, 2, () -> Check.run(b, text));
            due("54 before " + command, "6 5",
                    () -> b.allocation(0, 0) + " " + b.debt(1, 0));
            due("54 behind " + command, 0, () -> b.debt(2, 0));
            due("54 no error with " + command, 0, b::errorCode);
            due("54 one change with " + command, 0, b::undo);
        }
        PastureBanker first = new PastureBanker();
        due("54 stops at the first", 0, () -> Check.run(first, "cancel ann;finish ann;"));
        due("54 is a change", 0, first::undo);
        PastureBanker waiting = queued();
        due("54 a waiting herd requests", 1, () -> Check.run(waiting, "finish p;request s a 1;"));
    }

    // ---- undo, saved states, output

    private static void promise55() {
        PastureBanker b = new PastureBanker();
        due("55 nothing", STATE, b::undo);
        for (int coins = 1; coins <= 7; coins++) {
            b.lend(0, 1, 1);
        }
        for (int left = 5; left >= 0; left--) {
            int want = left;
            due("55 undo", want, b::undo);
            due("55 coins", want + 1, () -> b.debt(1, 0));
        }
        due("55 the seventh", STATE, b::undo);
        due("55 one coin is left", 1, () -> b.debt(1, 0));
        b.lend(0, 1, 10);
        b.lend(0, 1, 20);
        due("55 one can still be undone", 1, b::undo);
        b.lend(0, 1, 40);
        due("55 51 coins", 51, () -> b.debt(1, 0));
        due("55 undo", 1, b::undo);
        due("55 11 coins", 11, () -> b.debt(1, 0));
        due("55 undo", 0, b::undo);
        due("55 one coin", 1, () -> b.debt(1, 0));
        due("55 nothing is left", STATE, b::undo);
        due("55 what throws is no change", STATE, () -> b.lend(0, 0, 1));
        due("55 nothing is left", STATE, b::undo);
        b.isSafe();
        b.bestToFinish();
        b.save(0);
        b.writeAllocations();
        due("55 queries and save are no changes", STATE, b::undo);
    }

    private static void promise55Everything() {
        PastureBanker b = queued();
        b.lend(0, 1, 5);
        String before = Look.state(b);
        Change[] changes = {o -> o.finish(1), o -> o.cancel(3), o -> o.release(1, 0, 2),
            o -> o.setCapacity(0, 40), o -> o.setMaximum(2, 0, 9), o -> o.lend(0, 2, 5),
            o -> o.repay(1, 0, 5), o -> o.finish(2),
            o -> Check.run(o, "finish p;finish q;finish r;resize a 9;lend p r 3;")};
        due("55 a request that throws", STATE, () -> b.request(0, 0, 1));
        for (int change = 0; change < changes.length; change++) {
            PastureBanker o = queued();
            o.lend(0, 1, 5);
            changes[change].run(o);
            due("55 change " + change + " changes the state", false,
                    () -> before.equals(Look.state(o)));
            o.undo();
            due("55 change " + change + " is undone", before, () -> Look.state(o));
        }
        PastureBanker two = deadlocked();
        String wanted = Look.state(two);
        two.cancel(0);
        two.setMaximum(0, 0, 2);
        two.request(0, 0, 1);
        two.undo();
        two.undo();
        two.undo();
        due("55 x wants what it wanted", wanted, () -> Look.state(two));
        b.finish(0);
        int length = b.writeAllocations();
        Check.put(b, "ann");
        b.undo();
        due("55 the buffer stays", 3, () -> b.truncate(3));
        due("55 the output stays", (int) 'p', () -> b.outputByte(0));
        due("55 the output stays", INDEX, () -> b.outputByte(length));
        PastureBanker error = new PastureBanker();
        error.finish(0);
        Check.put(error, "x");
        due("55 an error", ARGUMENT, error::runScript);
        error.undo();
        due("55 the code stays", 1, error::errorCode);
        due("55 the position stays", 0, error::errorPosition);
    }

    private static void promises56And57() {
        PastureBanker b = queued();
        b.lend(0, 1, 5);
        String before = Look.state(b);
        due("56 save", 2, () -> b.save(0));
        due("56 the state stays", before, () -> Look.state(b));
        b.finish(1);
        b.setCapacity(0, 30);
        b.setMaximum(0, 0, 30);
        b.repay(1, 0, 5);
        due("57 restore", 2, () -> b.restore(0));
        due("57 the state is back", before, () -> Look.state(b));
        due("57 no undo", STATE, b::undo);
        b.finish(2);
        due("57 stays saved", 2, () -> b.restore(0));
        due("57 the state is back", before, () -> Look.state(b));
        b.finish(2);
        due("56 replaces", 1, () -> b.save(0));
        b.finish(3);
        due("57 the later one", 1, () -> b.restore(0));
        due("57 is restored", "3 ", () -> Look.queue(b));
        b.lend(0, 1, 1);
        b.save(1);
        due("56 save leaves the changes", 0, b::undo);
        PastureBanker two = deadlocked();
        String wanted = Look.state(two);
        two.save(0);
        two.cancel(0);
        two.setMaximum(0, 0, 2);
        two.request(0, 0, 1);
        two.restore(0);
        due("57 x wants what it wanted", wanted, () -> Look.state(two));
        due("56 undo leaves what is saved", 1, () -> b.restore(1));
        due("57 the loan is back", 6, () -> b.debt(1, 0));
    }

    private static void promises56And57Slots() {
        PastureBanker b = new PastureBanker();
        int[] wrong = {-1, 2, LEAST, GREATEST};
        for (int slot : wrong) {
            due("56 slot " + slot, INDEX, () -> b.save(slot));
            due("57 slot " + slot, INDEX, () -> b.restore(slot));
        }
        b.lend(0, 1, 1);
        due("57 nothing in 0", STATE, () -> b.restore(0));
        due("57 that keeps the changes", 0, b::undo);
        b.lend(0, 1, 1);
        due("56 slot 1", 0, () -> b.save(1));
        due("57 still nothing in 0", STATE, () -> b.restore(0));
        b.lend(0, 1, 2);
        due("56 slot 0", 0, () -> b.save(0));
        b.lend(0, 1, 4);
        due("57 slot 1", 0, () -> b.restore(1));
        due("57 one coin", 1, () -> b.debt(1, 0));
        due("57 slot 0", 0, () -> b.restore(0));
        due("57 three coins", 3, () -> b.debt(1, 0));
        Check.put(b, "eve");
        b.restore(1);
        due("57 the buffer stays", 4, b::findHerd);
        due("57 no output", INDEX, () -> b.outputByte(0));
        b.writeAllocations();
        b.restore(1);
        due("57 the output stays", (int) 'a', () -> b.outputByte(0));
    }

    private static void promise58() {
        PastureBanker b = shared();
        String want = "ann:0,1,0 bob:2,0,0 cid:3,0,2 dot:2,1,1 eve:0,0,2";
        due("58 length", want.length(), b::writeAllocations);
        due("58 text", want, () -> Check.output(b));
        due("58 waiting", "p:1 q:3 r:0? s:0?", () -> Check.output(queued()));
        due("58 one herd", "x:0", () -> Check.output(Check.loaded("rights;pasture a 1;herd x 1;")));
        PastureBanker units = Check.loaded("rights;pasture a 50;pasture b 50;herd x 50 9;herd y 0 41;");
        units.request(0, 0, 50);
        units.request(0, 1, 9);
        units.request(1, 1, 10);
        due("58 two digits", "x:50,9 y:0,10", () -> Check.output(units));
        units.release(0, 0, 1);
        units.request(1, 1, 17);
        due("58 other digits", "x:49,9 y:0,27", () -> Check.output(units));
        PastureBanker large = Check.loaded("rights;pasture a 50;pasture b 50;pasture c 50;"
                + "pasture d 50;pasture e 50;herd aaaaaa 1 1 1 1 1;herd bbbbbb 10 10 10 10 10;"
                + "herd cccccc 10 10 10 10 10;herd dddddd 0 0 0 0 0;herd eeeeee 10 10 10 10 10;"
                + "herd ffffff 10 10 10 10 10;herd gggggg 9 9 9 9 9;herd hhhhhh 50 50 50 50 50;");
        for (int pasture = 0; pasture < 5; pasture++) {
            for (int herd : new int[] {1, 2, 4, 5}) {
                large.request(herd, pasture, 10);
            }
        }
        large.request(7, 4, 50);
        due("58 the longest names", "aaaaaa:0,0,0,0,0 bbbbbb:10,10,10,10,10 cccccc:10,10,10,10,10 "
                + "dddddd:0,0,0,0,0 eeeeee:10,10,10,10,10 ffffff:10,10,10,10,10 gggggg:0,0,0,0,0 "
                + "hhhhhh:0,0,0,0,0?", () -> Check.output(large));
        queuedEverywhere();
    }

    /** The longest output text: eight herds of six letters with two digits each, seven waiting. */
    private static void queuedEverywhere() {
        StringBuilder setup = new StringBuilder("rights;");
        for (char pasture = 'a'; pasture < 'd'; pasture++) {
            setup.append("pasture ").append(pasture).append(" 50;");
        }
        setup.append("pasture d 0;pasture e 0;");
        for (char herd = 'a'; herd <= 'h'; herd++) {
            setup.append("herd ").append(String.valueOf(herd).repeat(6)).append(" 0 0 0 0 0;");
        }
        PastureBanker b = Check.loaded(setup.toString());
        b.setCapacity(3, 50);
        b.setCapacity(4, 50);
        StringBuilder want = new StringBuilder();
        for (int herd = 0; herd < 8; herd++) {
            boolean two = herd < 2;
            for (int pasture = 0; pasture < 5; pasture++) {
                b.setMaximum(herd, pasture, two ? 10 : 5);
                b.request(herd, pasture, two ? 10 : 5);
            }
            want.append(herd == 0 ? "" : " ").append(String.valueOf((char) ('a' + herd)).repeat(6))
                    .append(two ? ":10,10,10,10,10?" : ":5,5,5,5,5?");
        }
        for (int herd = 0; herd < 8; herd++) {
            b.setMaximum(herd, 0, 50);
            b.request(herd, 0, 40);
        }
        due("58 all wait", want.toString(), () -> Check.output(b));
    }

    private static void promise59() {
        PastureBanker b = queued();
        due("59 nothing was written", INDEX, () -> b.outputByte(0));
        due("59 length", 17, b::writeAllocations);
        due("59 first", (int) 'p', () -> b.outputByte(0));
        due("59 colon", 58, () -> b.outputByte(1));
        due("59 digit", 49, () -> b.outputByte(2));
        due("59 space", 32, () -> b.outputByte(3));
        due("59 last", 63, () -> b.outputByte(16));
        due("59 index 17", INDEX, () -> b.outputByte(17));
        due("59 index -1", INDEX, () -> b.outputByte(-1));
        due("59 the least", INDEX, () -> b.outputByte(LEAST));
        due("59 the greatest", INDEX, () -> b.outputByte(GREATEST));
        b.cancel(3);
        due("59 the text is as it was written", 63, () -> b.outputByte(16));
        due("59 a shorter one", 16, b::writeAllocations);
        due("59 replaces it", INDEX, () -> b.outputByte(16));
    }
}
