/**
 * For each promise: the least and the greatest values that go in and come out, what is empty or
 * missing, ties, and the values that stand where there is none. What throws is in RefusalTest.
 */
public final class EdgeTest {
    private static final Class<?> INDEX = IndexOutOfBoundsException.class;
    private static final Class<?> ARGUMENT = IllegalArgumentException.class;
    private static final Class<?> STATE = IllegalStateException.class;
    private static final int LEAST = Integer.MIN_VALUE;
    private static final int GREATEST = Integer.MAX_VALUE;

    public static void main(String[] args) {
        newObject();
        input();
        load();
        codes();
        herdsAndPastures();
        names();
        safety();
        why();
        largest();
        safeCapacity();
        best();
        queue();
        deadlocks();
        debts();
        chains();
        counts();
        utilization();
        meanDebt();
        inconsistencies();
        request();
        release();
        finish();
        cancel();
        setCapacity();
        setMaximum();
        lendAndRepay();
        runScript();
        undoSaveAndRestore();
        output();
        Sentences.allQuoted("Returns .*|- `\\w+`: .*([0-9]|to its).*");
        Check.finish("EdgeTest");
    }

    private static void about(int promise, String sentence) {
        Sentences.about(promise, sentence);
    }

    private static void due(String what, Object want, Check.Call call) {
        Check.due(what, want, call);
    }

    /** Eight herds that wait for a unit each of a pasture without units, herd 7 in front. */
    private static PastureBanker waiting() {
        PastureBanker b = Check.loaded(States.setup(1, 8, 8, 1));
        b.setCapacity(0, 0);
        for (int herd = 7; herd >= 0; herd--) {
            b.request(herd, 0, 1);
        }
        return b;
    }

    // ---- input

    private static void newObject() {
        about(1, "Creates the state of the setup text \"" + States.FIRST_SETUP + "\".");
        due("state", Look.state(Check.loaded(States.FIRST_SETUP)),
                () -> Look.state(new PastureBanker()));
        due("names", "hill fen ridge ann bob cid dot eve", () -> {
            PastureBanker b = new PastureBanker();
            return Look.pastureName(b, 0) + " " + Look.pastureName(b, 1) + " "
                    + Look.pastureName(b, 2) + " " + Look.herdName(b, 0) + " "
                    + Look.herdName(b, 1) + " " + Look.herdName(b, 2) + " " + Look.herdName(b, 3)
                    + " " + Look.herdName(b, 4);
        });
        due("counters", "0 0 0 0", () -> Look.counters(new PastureBanker()));
        due("nothing to undo", STATE, () -> new PastureBanker().undo());
        due("nothing written", INDEX, () -> new PastureBanker().outputByte(0));
        about(1, "The input buffer is empty and nothing is saved.");
        due("length", 0, () -> Look.length(new PastureBanker()));
        due("as a script", 0, () -> new PastureBanker().runScript());
        due("as a setup", ARGUMENT, () -> new PastureBanker().load());
        due("slot 0", STATE, () -> new PastureBanker().restore(0));
        due("slot 1", STATE, () -> new PastureBanker().restore(1));
    }

    private static void input() {
        String[] bytes = {"`a`: bytes 1 to 4", "`b`: bytes 5 to 8", "`c`: bytes 9 to 12",
            "`d`: bytes 13 to 16", "`e`: bytes 17 to 20"};
        for (int argument = 0; argument < 5; argument++) {
            about(2, bytes[argument]);
            for (int place = 4 * argument; place < 4 * argument + 4; place++) {
                bytesAt(place);
            }
        }
        about(2, "the four bytes of each argument, the most significant byte first");
        PastureBanker b = new PastureBanker();
        b.append(0x66696e69, 0x73682061, 0x6e6e3b20, 0x20202020, 0x20200a20);
        due("finish ann; and spaces", 1, b::runScript);
        about(2, "Returns the new length of the buffer.");
        for (int length = 20; length <= 600; length += 20) {
            due("append", length, () -> b.append(0, -1, 1, LEAST, GREATEST));
        }
        b.truncate(1);
        due("behind one byte", 21, () -> b.append(0, 0, 0, 0, 0));
    }

    /** A byte of each kind at one of the 20 places, with spaces before it and behind it. */
    private static void bytesAt(int place) {
        for (int sign : new int[] {0, 1, 127, 128, 255, 'x', ';', '7'}) {
            for (int before : new int[] {0, 20, 580}) {
                PastureBanker b = new PastureBanker();
                Check.put(b, " ".repeat(before));
                int[] words = Check.wordsAt(" ".repeat(place) + (char) sign, 0);
                due("append", before + 20,
                        () -> b.append(words[0], words[1], words[2], words[3], words[4]));
                due("byte " + sign, ARGUMENT, b::runScript);
                due("byte " + sign, "error 1 at " + (before + place), () -> Check.codes(b));
            }
        }
    }

    private static void load() {
        about(3, "`length`: new length of the buffer, 0 to its current length");
        PastureBanker b = new PastureBanker();
        due("0 of 0", 0, () -> b.truncate(0));
        due("1 of 0", ARGUMENT, () -> b.truncate(1));
        due("-1 of 0", ARGUMENT, () -> b.truncate(-1));
        Check.put(b, "x".repeat(600));
        due("600 of 600", 600, () -> b.truncate(600));
        due("601 of 600", ARGUMENT, () -> b.truncate(601));
        about(3, "Returns the new length.");
        for (int length : new int[] {600, 599, 581, 580, 20, 1, 0}) {
            due("truncate", length, () -> b.truncate(length));
            due("one more", ARGUMENT, () -> b.truncate(length + 1));
            due("length", length, () -> lengthOfCopy(length));
        }
        about(4, "empties the buffer, also if the text has an error.");
        due("of a setup", 0, () -> Look.length(Check.loaded("rights;pasture a 0;herd x 0;")));
        for (String text : new String[] {"", "x", "rights;", " ".repeat(600)}) {
            PastureBanker wrong = new PastureBanker();
            Check.load(wrong, text);
            due("of an error", 0, () -> Look.length(wrong));
        }
        about(4, "A valid setup replaces the whole state: all allocations and debts are 0, the queue "
                + "is empty, all counters are 0, the saved states are discarded, and the undo "
                + "history is empty.");
        replaces("busy", States::busy);
        replaces("full", States::full);
        replaces("tiny", States::tiny);
        replaces("last", EdgeTest::lastHasAll);
        about(4, "Returns the number of herds.");
        for (int herds = 1; herds <= 8; herds++) {
            int count = herds;
            due("load", "loaded " + count,
                    () -> Check.load(new PastureBanker(), States.setup(5, 1, count, 1)));
        }
    }

    /** Herd 7 holds the seven units of the pasture, herds 0 to 6 wait for one each. */
    private static PastureBanker lastHasAll() {
        PastureBanker b = Check.loaded(States.setup(1, 7, 8, 1));
        b.setMaximum(7, 0, 7);
        b.request(7, 0, 7);
        for (int herd = 0; herd < 7; herd++) {
            b.request(herd, 0, 1);
        }
        return b;
    }

    private static int lengthOfCopy(int length) {
        PastureBanker b = new PastureBanker();
        Check.put(b, "x".repeat(600));
        b.truncate(length);
        return Look.length(b);
    }

    private static void replaces(String name, Look.Build build) {
        for (String setup : new String[] {States.FIRST_SETUP, States.FULL_SETUP,
            "rights;pasture p 0;herd h 0;"}) {
            Look.Build loaded = () -> {
                PastureBanker b = build.make();
                b.bestToFinish();
                b.truncate(0);
                Check.load(b, setup);
                return b;
            };
            due(name, Look.state(Check.loaded(setup)), () -> Look.state(loaded.make()));
            due(name + " slot 0", STATE, () -> loaded.make().restore(0));
            due(name + " slot 1", STATE, () -> loaded.make().restore(1));
            due(name + " undo", STATE, () -> loaded.make().undo());
            due(name + " is as good as new", Look.input(() -> Check.loaded(setup)),
                    () -> Look.input(loaded));
        }
    }

    private static void codes() {
        String[] texts = {"rights", "rights;pasture a 51;", "rights;pasture abcdefg 1;",
            States.setup(6, 1, 1, 1)};
        int[] positions = {6, 17, 15, 67};
        about(5, "Returns 1 to 4; 0 if that text had no error or there was no such call.");
        due("no call", 0, () -> new PastureBanker().errorCode());
        for (int code = 1; code <= 4; code++) {
            PastureBanker b = new PastureBanker();
            Check.load(b, texts[code - 1]);
            due("error", code, b::errorCode);
            b.finish(0);
            b.undo();
            due("later", code, b::errorCode);
            Check.script(b, "");
            due("an empty script has none", 0, b::errorCode);
        }
        due("of a script", 4, () -> afterScript("finish ann;".repeat(31)).errorCode());
        due("a script that stops at once", 0, () -> afterScript("cancel ann;").errorCode());
        due("a setup", 0, () -> Check.loaded(States.FIRST_SETUP).errorCode());
        about(6, "Returns the position in the text; NONE if that text had no error or there was no "
                + "such call.");
        due("no call", -1, () -> new PastureBanker().errorPosition());
        for (int code = 1; code <= 4; code++) {
            PastureBanker b = new PastureBanker();
            Check.load(b, texts[code - 1]);
            due("error", positions[code - 1], b::errorPosition);
            b.finish(0);
            b.undo();
            due("later", positions[code - 1], b::errorPosition);
            Check.script(b, "");
            due("an empty script has none", -1, b::errorPosition);
        }
        due("least", 0, () -> afterScript(";").errorPosition());
        due("greatest", 600, () -> afterScript(" ".repeat(594) + "finish").errorPosition());
        due("a script that stops at once", -1, () -> afterScript("cancel ann;").errorPosition());
        due("a setup", -1, () -> Check.loaded(States.FIRST_SETUP).errorPosition());
    }

    private static PastureBanker afterScript(String text) {
        PastureBanker b = new PastureBanker();
        Check.script(b, "x");
        Check.script(b, text);
        return b;
    }

    // ---- pastures and herds

    private static void herdsAndPastures() {
        about(7, "Returns 1 to 5.");
        for (int pastures = 1; pastures <= 5; pastures++) {
            String setup = States.setup(pastures, 1, 1, 1);
            due("pastures", pastures, () -> Check.loaded(setup).pastureCount());
        }
        about(8, "Returns 1 to 8.");
        for (int herds = 1; herds <= 8; herds++) {
            String setup = States.setup(1, 1, herds, 1);
            due("herds", herds, () -> Check.loaded(setup).herdCount());
        }
        PastureBanker b = Check.loaded("rights;pasture a 0;pasture b 50;herd x 0 50;herd y 0 0;");
        about(9, "Returns 0 to 50 units.");
        due("least", 0, () -> b.capacity(0));
        due("greatest", 50, () -> b.capacity(1));
        about(10, "Returns the capacity minus all allocations on the pasture.");
        due("of none", 0, () -> b.available(0));
        due("of all", 50, () -> b.available(1));
        about(11, "Returns the maximum claim.");
        due("least", 0, () -> b.maximum(0, 0));
        due("greatest", 50, () -> b.maximum(0, 1));
        about(12, "Returns the units that the herd holds.");
        due("none at first", 0, () -> b.allocation(0, 1));
        due("all are granted", true, () -> b.request(0, 1, 50));
        due("all", 50, () -> b.allocation(0, 1));
        due("none of the other", 0, () -> b.allocation(0, 0));
        due("not the other herd", 0, () -> b.allocation(1, 1));
        due("none are available", 0, () -> b.available(1));
        about(13, "Returns the maximum claim minus the allocation.");
        due("of all", 0, () -> b.need(0, 1));
        due("one given back", 0, () -> b.release(0, 1, 1));
        due("one", 1, () -> b.need(0, 1));
        due("all given back", 0, () -> b.release(0, 1, 49));
        due("all", 50, () -> b.need(0, 1));
        due("of a claim of 0", 0, () -> b.need(1, 1));
    }

    private static void names() {
        PastureBanker b = Check.loaded(
                "rights;pasture abcdef 1;pasture z 1;herd uvwxyz 1 1;herd a 1 1;herd tuv 1 1;");
        about(14, "`index`: position in the name, from 0");
        due("first", (int) 'u', () -> b.herdNameByte(0, 0));
        due("sixth", (int) 'z', () -> b.herdNameByte(0, 5));
        due("seventh", INDEX, () -> b.herdNameByte(0, 6));
        due("before the first", INDEX, () -> b.herdNameByte(0, -1));
        due("the only one", (int) 'a', () -> b.herdNameByte(1, 0));
        due("behind it", INDEX, () -> b.herdNameByte(1, 1));
        due("before it", INDEX, () -> b.herdNameByte(1, -1));
        about(14, "Returns the letter as a byte.");
        due("least", 97, () -> b.herdNameByte(1, 0));
        due("greatest", 122, () -> b.herdNameByte(0, 5));
        due("names", "uvwxyz a tuv", () -> Look.herdName(b, 0) + " " + Look.herdName(b, 1) + " "
                + Look.herdName(b, 2));
        about(15, "`index`: position in the name, from 0");
        due("first", (int) 'a', () -> b.pastureNameByte(0, 0));
        due("sixth", (int) 'f', () -> b.pastureNameByte(0, 5));
        due("seventh", INDEX, () -> b.pastureNameByte(0, 6));
        due("before the first", INDEX, () -> b.pastureNameByte(0, -1));
        due("the only one", (int) 'z', () -> b.pastureNameByte(1, 0));
        due("behind it", INDEX, () -> b.pastureNameByte(1, 1));
        about(15, "Returns the letter as a byte.");
        due("least", 97, () -> b.pastureNameByte(0, 0));
        due("greatest", 122, () -> b.pastureNameByte(1, 0));
        due("names", "abcdef z", () -> Look.pastureName(b, 0) + " " + Look.pastureName(b, 1));
        about(16, "Returns the number of the herd whose name equals the whole input buffer, which "
                + "stays unchanged.");
        String[] herds = {"uvwxyz", "a", "tuv"};
        for (int herd = 0; herd < 3; herd++) {
            int number = herd;
            b.truncate(0);
            Check.put(b, herds[herd]);
            due("found", number, b::findHerd);
            due("found again", number, b::findHerd);
            due("unchanged", ARGUMENT, () -> b.truncate(herds[number].length() + 1));
            due("unchanged", herds[number].length(), () -> b.truncate(herds[number].length()));
        }
        PastureBanker last = Check.loaded(States.setup(1, 1, 8, 1));
        Check.put(last, "h");
        due("the last of eight", 7, last::findHerd);
    }

    // ---- safety

    private static void safety() {
        about(17, "Returns whether it is safe.");
        for (int herds : new int[] {1, 8}) {
            PastureBanker b = Check.loaded(States.setup(1, 5, herds, 5));
            due("just enough", true, b::isSafe);
            b.setCapacity(0, 4);
            due("one too few", false, b::isSafe);
            b.setCapacity(0, 0);
            due("none", false, b::isSafe);
        }
        due("no claims", true, () -> Check.loaded("rights;pasture a 0;herd x 0;").isSafe());
        about(18, "`position`: position in the safe order, from 0");
        for (int herds : new int[] {1, 2, 8}) {
            PastureBanker b = Check.loaded(States.setup(1, 5, herds, 5));
            due("first", 0, () -> b.safeOrder(0));
            due("last", herds - 1, () -> b.safeOrder(herds - 1));
            due("behind the last", -1, () -> b.safeOrder(herds));
            due("before the first", -1, () -> b.safeOrder(-1));
        }
        about(18, "Returns the number of the herd; NONE if position is out of range or the state is "
                + "not safe.");
        PastureBanker b = Check.loaded(States.setup(1, 5, 2, 5));
        for (int position : new int[] {-1, 2, 5, 7, 8, LEAST, GREATEST}) {
            due("out of range", -1, () -> b.safeOrder(position));
        }
        // Herd 0 can finish, but herd 1 cannot: no position has a herd, not even the first one.
        b.setMaximum(1, 0, 6);
        for (int position : new int[] {-1, 0, 1, 2, LEAST, GREATEST}) {
            due("not safe", -1, () -> b.safeOrder(position));
        }
        about(19, "Returns whether its remaining need on every pasture is at most the available "
                + "units.");
        due("herd 0", true, () -> b.canFinish(0));
        due("herd 1", false, () -> b.canFinish(1));
        b.setMaximum(1, 0, 5);
        b.request(0, 0, 5);
        due("need 0 of 0", true, () -> b.canFinish(0));
        due("need 5 of 0", false, () -> b.canFinish(1));
        b.release(0, 0, 4);
        due("need 5 of 4", false, () -> b.canFinish(1));
        b.release(0, 0, 1);
        due("need 5 of 5", true, () -> b.canFinish(1));
    }

    private static void why() {
        about(20, "`amount`: 1 to 50");
        PastureBanker rich = Check.loaded("rights;pasture a 50;herd x 50;herd y 1;");
        due("0", ARGUMENT, () -> rich.whyNotGranted(0, 0, 0));
        due("1", 0, () -> rich.whyNotGranted(0, 0, 1));
        due("50", 0, () -> rich.whyNotGranted(0, 0, 50));
        due("51", ARGUMENT, () -> rich.whyNotGranted(0, 0, 51));
        due("50 of a need of 1", 2, () -> rich.whyNotGranted(1, 0, 50));
        due("0 of a waiting herd", ARGUMENT, () -> waiting().whyNotGranted(0, 0, 0));
        due("51 of a waiting herd", ARGUMENT, () -> waiting().whyNotGranted(0, 0, 51));
        about(20, "Returns the first reason that applies: 1 if the herd is waiting, 2 if the amount "
                + "exceeds the remaining need, 3 if it exceeds the available units, 4 if the "
                + "resulting state is not safe; 0 if the request would be granted at once.");
        // Of a, p holds 3 of 4; of b nothing is held.
        PastureBanker b = Check.loaded(
                "rights;pasture a 4;pasture b 4;herd p 3 0;herd q 4 4;herd r 2 2;herd s 4 4;");
        b.request(0, 0, 3);
        b.request(1, 0, 2);
        due("q waits, and 1 of b would be granted else", 1, () -> b.whyNotGranted(1, 1, 1));
        due("q waits, and 5 are above its need", 1, () -> b.whyNotGranted(1, 1, 5));
        due("q waits, and 2 are above the available units", 1, () -> b.whyNotGranted(1, 0, 2));
        due("3 above the need of 2, and the available 1", 2, () -> b.whyNotGranted(2, 0, 3));
        due("3 above the need of 2, and of 4 available", 2, () -> b.whyNotGranted(2, 1, 3));
        due("2 at the need of 2, above the available 1", 3, () -> b.whyNotGranted(2, 0, 2));
        due("1 at the available 1", 0, () -> b.whyNotGranted(2, 0, 1));
        due("2 at the need, below the available units", 0, () -> b.whyNotGranted(2, 1, 2));
        due("1 of a need of 0", 2, () -> b.whyNotGranted(0, 0, 1));
        b.setMaximum(0, 1, 5);
        due("not safe", 4, () -> b.whyNotGranted(2, 0, 1));
        due("not safe, at the available units", 4, () -> b.whyNotGranted(3, 1, 4));
        due("above the available units in an unsafe state", 3, () -> b.whyNotGranted(3, 0, 2));
        due("above the need in an unsafe state", 2, () -> b.whyNotGranted(3, 0, 5));
        due("waiting in an unsafe state", 1, () -> b.whyNotGranted(1, 0, 1));
        due("nothing was requested", "1 0 1 0", () -> Look.counters(b));
    }

    private static void largest() {
        about(21, "Returns the largest amount for which whyNotGranted() returns 0; 0 if there is "
                + "none.");
        PastureBanker rich = Check.loaded("rights;pasture a 50;herd x 50;herd y 1;herd z 0;");
        due("greatest", 50, () -> rich.largestGrant(0, 0));
        due("one", 1, () -> rich.largestGrant(1, 0));
        due("no need", 0, () -> rich.largestGrant(2, 0));
        rich.request(0, 0, 49);
        due("the last one, for x", 1, () -> rich.largestGrant(0, 0));
        due("the last one, for y", 1, () -> rich.largestGrant(1, 0));
        rich.request(1, 0, 1);
        due("y has all", 0, () -> rich.largestGrant(1, 0));
        due("none available", 0, () -> rich.largestGrant(0, 0));
        due("waiting", 0, () -> waiting().largestGrant(7, 0));
        PastureBanker two = Check.loaded(States.setup(2, 1, 2, 1));
        two.request(0, 0, 1);
        due("not safe", 0, () -> two.largestGrant(1, 1));
        due("safe", 1, () -> two.largestGrant(0, 1));
        PastureBanker unsafe = Check.loaded(States.setup(1, 9, 2, 9));
        unsafe.setMaximum(0, 0, 10);
        due("no state is safe", 0, () -> unsafe.largestGrant(1, 0));
        PastureBanker some = Check.loaded("rights;pasture a 9;herd x 9;herd y 9;");
        some.request(0, 0, 4);
        due("none for y, as each grant would be unsafe", 0, () -> some.largestGrant(1, 0));
        due("all for x", 5, () -> some.largestGrant(0, 0));
        some.setMaximum(0, 0, 7);
        due("two for y, so that three are left for x", 2, () -> some.largestGrant(1, 0));
        due("three", 4, () -> some.whyNotGranted(1, 0, 3));
    }

    private static void safeCapacity() {
        about(22, "Returns the least capacity that is not less than the sum of the allocations on "
                + "the pasture; NONE if no capacity up to 400 is sufficient.");
        due("no claims", 0, () -> Check.loaded("rights;pasture a 50;herd x 0;").safeCapacity(0));
        PastureBanker b = Check.loaded("rights;pasture a 50;pasture b 1;herd x 50 1;herd y 0 0;");
        due("greatest claim", 50, () -> b.safeCapacity(0));
        due("of the other", 1, () -> b.safeCapacity(1));
        b.request(0, 0, 50);
        due("all allocated", 50, () -> b.safeCapacity(0));
        b.setMaximum(0, 1, 2);
        due("the other one is too small", -1, () -> b.safeCapacity(0));
        due("two of the other one", 2, () -> b.safeCapacity(1));
        due("capacities stay", "50 1", () -> b.capacity(0) + " " + b.capacity(1));
        PastureBanker held = Check.loaded("rights;pasture a 9;herd x 3;herd y 2;herd z 9;");
        held.request(0, 0, 3);
        held.request(1, 0, 2);
        held.setMaximum(2, 0, 0);
        due("just the allocations", 5, () -> held.safeCapacity(0));
        held.setMaximum(2, 0, 5);
        due("z gets what x and y give back", 5, () -> held.safeCapacity(0));
        held.setMaximum(2, 0, 6);
        due("one more", 6, () -> held.safeCapacity(0));
        held.setMaximum(2, 0, 50);
        due("above 9", 50, () -> held.safeCapacity(0));
        // y holds all of a and needs the unit of b, which x holds; x needs 50 of a.
        PastureBanker most = Check.loaded("rights;pasture a 50;pasture b 1;herd x 0 1;herd y 50 0;");
        most.request(1, 0, 50);
        most.request(0, 1, 1);
        most.setMaximum(0, 0, 50);
        most.setMaximum(1, 1, 1);
        due("greatest of all", 100, () -> most.safeCapacity(0));
        due("or two of b", 2, () -> most.safeCapacity(1));
        most.setMaximum(1, 1, 50);
        due("none of a is sufficient", -1, () -> most.safeCapacity(0));
        due("51 of b", 51, () -> most.safeCapacity(1));
    }

    private static void best() {
        about(23, "Returns the herd with the greatest count; the lowest number wins a tie.");
        due("nobody waits", 0, () -> new PastureBanker().bestToFinish());
        due("one herd", 0, () -> States.tiny().bestToFinish());
        due("all wait, none helps", 0, () -> waiting().bestToFinish());
        due("all hold, none helps", 0, () -> States.full().bestToFinish());
        // p holds 1, q holds 2, r holds 2, s holds 3: there is nothing left for t, u and v.
        String setup = "rights;pasture a 8;herd p 1;herd q 2;herd r 2;herd s 3;herd t 2;herd u 3;"
                + "herd v 1;";
        PastureBanker b = Check.loaded(setup);
        b.request(0, 0, 1);
        b.request(1, 0, 2);
        b.request(2, 0, 2);
        b.request(3, 0, 3);
        due("nobody waits", 0, b::bestToFinish);
        b.request(4, 0, 2);
        due("q, r and s let one go on: the lowest", 1, b::bestToFinish);
        b.request(6, 0, 1);
        due("s lets two go on", 3, b::bestToFinish);
        b.cancel(4);
        due("each lets one go on", 0, b::bestToFinish);
        b.cancel(6);
        b.request(5, 0, 3);
        due("only s lets one go on", 3, b::bestToFinish);
        b.finish(3);
        due("u has it, and nobody waits", 0, b::bestToFinish);
        about(23, "(its own pending request does not count)");
        PastureBanker own = Check.loaded("rights;pasture a 4;herd y 4;herd x 1;herd z 1;");
        own.request(1, 0, 1);
        own.request(0, 0, 3);
        own.request(0, 0, 1);
        due("y waits", "0 ", () -> Look.queue(own));
        due("x lets y go on, y nobody but itself", 1, own::bestToFinish);
        own.request(2, 0, 1);
        due("x and y let one go on: x lets y, y lets z", 0, own::bestToFinish);
        own.finish(1);
        due("y has all", 4, () -> own.allocation(0, 0));
        due("y lets z go on", 0, own::bestToFinish);
    }

    // ---- queue and deadlocks

    private static void queue() {
        about(24, "Returns the number of waiting herds.");
        due("none", 0, () -> new PastureBanker().queueLength());
        due("all", 8, () -> waiting().queueLength());
        PastureBanker b = waiting();
        about(25, "`position`: position in the queue, from 0 for the front");
        due("front", 7, () -> b.queuedHerd(0));
        due("back", 0, () -> b.queuedHerd(7));
        about(25, "Returns the number of the herd; NONE if position is out of range.");
        for (int position : new int[] {-1, 8, LEAST, GREATEST}) {
            due("out of range", -1, () -> b.queuedHerd(position));
        }
        due("an empty queue", -1, () -> new PastureBanker().queuedHerd(0));
        b.cancel(7);
        due("the front moves up", 6, () -> b.queuedHerd(0));
        due("the back too", 0, () -> b.queuedHerd(6));
        due("out of range now", -1, () -> b.queuedHerd(7));
        about(26, "Returns whether it has a pending request.");
        due("cancelled", false, () -> b.isWaiting(7));
        due("pending", true, () -> b.isWaiting(6));
        due("never", false, () -> new PastureBanker().isWaiting(0));
        b.setCapacity(0, 1);
        due("granted", false, () -> b.isWaiting(6));
        due("still pending", true, () -> b.isWaiting(5));
        about(27, "Returns the number of the pasture; NONE if the herd is not waiting.");
        due("least", 0, () -> b.requestedPasture(5));
        due("greatest", 4, () -> States.full().requestedPasture(7));
        due("cancelled", -1, () -> b.requestedPasture(7));
        due("granted", -1, () -> b.requestedPasture(6));
        due("never", -1, () -> new PastureBanker().requestedPasture(0));
        about(28, "Returns the amount; 0 if the herd is not waiting.");
        due("least", 1, () -> b.requestedAmount(5));
        due("cancelled", 0, () -> b.requestedAmount(7));
        due("granted", 0, () -> b.requestedAmount(6));
        due("never", 0, () -> new PastureBanker().requestedAmount(0));
        PastureBanker most = Check.loaded("rights;pasture a 50;herd x 50;");
        most.setCapacity(0, 0);
        due("50 of none", false, () -> most.request(0, 0, 50));
        due("greatest", 50, () -> most.requestedAmount(0));
        due("granted", 1, () -> most.setCapacity(0, 50));
        due("no more", 0, () -> most.requestedAmount(0));
    }

    private static void deadlocks() {
        about(29, "Returns whether it does (see the section about deadlocks); false if both are the "
                + "same herd.");
        PastureBanker full = States.full();
        for (int herd = 0; herd < 8; herd++) {
            int h = herd;
            due("itself, though it waits for more than there is and holds some", false,
                    () -> full.waitsFor(h, h));
            due("another", true, () -> full.waitsFor(h, 7 - h));
        }
        due("nobody holds any", false, () -> waiting().waitsFor(0, 1));
        due("nobody waits", false, () -> new PastureBanker().waitsFor(0, 1));
        about(30, "Returns whether the deadlock detection never picks it.");
        due("first", true, () -> full.isDeadlocked(0));
        due("last", true, () -> full.isDeadlocked(7));
        due("nobody waits", false, () -> new PastureBanker().isDeadlocked(0));
        full.setCapacity(4, 15);
        due("one unit too few", true, () -> full.isDeadlocked(7));
        about(31, "Returns the number of deadlocked herds.");
        due("greatest", 8, full::deadlockedCount);
        full.cancel(3);
        due("herd 3 gives one unit: all go on", 0, full::deadlockedCount);
        due("none", 0, () -> new PastureBanker().deadlockedCount());
        due("all wait for what is not there", 8, () -> waiting().deadlockedCount());
        PastureBanker seven = waiting();
        seven.cancel(0);
        due("all but one", 7, seven::deadlockedCount);
        PastureBanker tiny = States.tiny();
        due("one herd", 0, tiny::deadlockedCount);
        tiny.setMaximum(0, 0, 1);
        tiny.request(0, 0, 1);
        due("one herd without units", 1, tiny::deadlockedCount);
        due("as before", 1, tiny::deadlockedCount);
    }

    // ---- debts

    private static void debts() {
        PastureBanker b = Check.loaded(States.setup(1, 0, 8, 0));
        for (int herd = 1; herd < 8; herd++) {
            b.lend(herd, 0, 999);
        }
        about(32, "Returns the coins that the debtor owes the creditor; 0 if there is no debt.");
        due("greatest", 999, () -> b.debt(0, 7));
        due("the other way", 0, () -> b.debt(7, 0));
        due("itself", 0, () -> b.debt(0, 0));
        due("others", 0, () -> b.debt(6, 7));
        due("least", 1, () -> {
            b.repay(0, 7, 998);
            return b.debt(0, 7);
        });
        due("repaid", 0, () -> {
            b.repay(0, 7, 1);
            return b.debt(0, 7);
        });
        b.lend(7, 0, 999);
        about(33, "Returns the coins that the herd owes all other herds.");
        due("greatest", 6993, () -> b.totalDebt(0));
        due("none", 0, () -> b.totalDebt(7));
        due("no debts at all", 0, () -> new PastureBanker().totalDebt(4));
        about(34, "Returns the coins that all other herds owe the herd.");
        due("none", 0, () -> b.totalClaims(0));
        due("one", 999, () -> b.totalClaims(7));
        due("no debts at all", 0, () -> new PastureBanker().totalClaims(4));
        PastureBanker rich = Check.loaded(States.setup(1, 0, 8, 0));
        for (int herd = 0; herd < 7; herd++) {
            rich.lend(7, herd, 999);
        }
        due("greatest", 6993, () -> rich.totalClaims(7));
        due("of a debtor", 0, () -> rich.totalClaims(0));
        transitiveClaims(rich);
    }

    /** At first each herd owes herd 7, at last each one owes each one behind it. */
    private static void transitiveClaims(PastureBanker rich) {
        about(38, "Returns the sum of all debts between two herds each of which is the given herd or "
                + "reaches it through a chain of debts from debtor to creditor.");
        due("greatest claims", 6993, () -> rich.transitiveClaims(7));
        due("only debts", 0, () -> rich.transitiveClaims(0));
        due("no debts at all", 0, () -> new PastureBanker().transitiveClaims(4));
        for (int debtor = 0; debtor < 7; debtor++) {
            for (int creditor = debtor + 1; creditor < 7; creditor++) {
                rich.lend(creditor, debtor, 999);
            }
        }
        due("all 28 debts", 27972, () -> rich.transitiveClaims(7));
        due("one debt", 999, () -> rich.transitiveClaims(1));
        due("not those of a creditor", 0, () -> rich.transitiveClaims(0));
        for (int herd = 0; herd < 8; herd++) {
            int h = herd;
            due("in a chain", h * (h + 1) / 2, () -> States.chain().transitiveClaims(h));
        }
    }

    private static void chains() {
        about(35, "Returns the least number of debts in a cycle that contains the new debt, counting "
                + "the new debt itself; 1 if both are the same herd; NONE if the new debt would "
                + "close no cycle.");
        PastureBanker b = States.chain();
        for (int herd = 0; herd < 8; herd++) {
            int h = herd;
            due("itself", 1, () -> b.closedCycleLength(h, h));
            due("back to the start", h + 1, () -> b.closedCycleLength(h, 0));
            due("from the end", 8 - h, () -> b.closedCycleLength(7, h));
            due("along the chain", h == 0 ? 1 : -1, () -> b.closedCycleLength(0, h));
        }
        due("no debts at all", -1, () -> new PastureBanker().closedCycleLength(0, 1));
        due("no debts at all", 1, () -> new PastureBanker().closedCycleLength(4, 4));
        b.lend(7, 3, 1);
        due("the shorter chain", 5, () -> b.closedCycleLength(7, 0));
        b.lend(6, 0, 1);
        due("the shorter chain of two", 3, () -> b.closedCycleLength(7, 0));
        b.lend(7, 0, 1);
        due("the shortest chain", 2, () -> b.closedCycleLength(7, 0));
        about(36, "Returns the debt depth.");
        due("greatest", 7, () -> b.debtDepth(0));
        due("least", 0, () -> b.debtDepth(7));
        due("one debt", 1, () -> b.debtDepth(6));
        due("the longer chain", 4, () -> b.debtDepth(3));
        due("no debts at all", 0, () -> new PastureBanker().debtDepth(0));
        settlement(b);
    }

    private static void settlement(PastureBanker b) {
        about(37, "`position`: position in the settlement order, from 0");
        due("first", 0, () -> b.settlementOrder(0));
        due("last", 7, () -> b.settlementOrder(7));
        due("behind the last", INDEX, () -> b.settlementOrder(8));
        due("before the first", INDEX, () -> b.settlementOrder(-1));
        due("behind the last of one", INDEX, () -> States.tiny().settlementOrder(1));
        due("the only one", 0, () -> States.tiny().settlementOrder(0));
        about(37, "each step appends the lowest-numbered herd that is not in the order yet and whose "
                + "debtors all are in the order.");
        PastureBanker back = Check.loaded(States.setup(1, 0, 8, 0));
        due("no debts", "0 1 2 3 4 5 6 7 ", () -> Look.settlement(back));
        back.lend(0, 7, 1);
        due("0 behind 7", "1 2 3 4 5 6 7 0 ", () -> Look.settlement(back));
        back.lend(7, 3, 1);
        back.lend(1, 7, 1);
        due("3, then 7, then 0 and 1", "2 3 4 5 6 7 0 1 ", () -> Look.settlement(back));
        back.lend(3, 6, 1);
        due("6 before 3", "2 4 5 6 3 7 0 1 ", () -> Look.settlement(back));
        about(37, "Returns the number of the herd.");
        PastureBanker down = Check.loaded(States.setup(1, 0, 8, 0));
        for (int herd = 7; herd > 0; herd--) {
            down.lend(herd - 1, herd, 999);
        }
        due("from the last to the first", "7 6 5 4 3 2 1 0 ", () -> Look.settlement(down));
    }

    // ---- statistics

    private static void counts() {
        PastureBanker b = waiting();
        about(39, "Returns the number of requests.");
        due("none at first", 0, () -> new PastureBanker().immediateGrants());
        due("none of those that wait", 0, b::immediateGrants);
        b.cancel(7);
        b.finish(6);
        b.setCapacity(0, 2);
        due("none of the queue's", 0, b::immediateGrants);
        b.setCapacity(0, 7);
        due("at once", true, () -> b.request(7, 0, 1));
        due("one", 1, b::immediateGrants);
        about(40, "Returns the number of requests.");
        due("none at first", 0, () -> waiting().queuedGrants());
        due("six", 6, b::queuedGrants);
        about(41, "Returns the number of requests.");
        due("none at first", 0, () -> new PastureBanker().queuedRequests());
        due("eight", 8, b::queuedRequests);
        about(42, "Returns the number of requests.");
        due("none at first", 0, () -> waiting().withdrawnRequests());
        due("one by cancel, one by finish", 2, b::withdrawnRequests);
        due("finish of one that does not wait", 0, () -> b.finish(6));
        due("is not counted", 2, b::withdrawnRequests);
        for (int promise = 39; promise <= 42; promise++) {
            about(promise, "since the latest setup");
            due("counters", "1 6 8 2", () -> Look.counters(b));
            Check.load(b, "x");
            due("an error is no setup", "1 6 8 2", () -> Look.counters(b));
            due("a setup", "0 0 0 0", () -> {
                PastureBanker loaded = waiting();
                loaded.finish(0);
                loaded.setCapacity(0, 5);
                loaded.request(0, 0, 1);
                Check.load(loaded, States.FIRST_SETUP);
                return Look.counters(loaded);
            });
        }
    }

    private static void utilization() {
        about(43, "Returns the sum of the allocations divided by the capacity, both converted to "
                + "float; 0.0f if the capacity is 0.");
        due("capacity 0", 0.0f, () -> States.tiny().utilization(0));
        due("none", 0.0f, () -> new PastureBanker().utilization(0));
        due("one of 49", 1.0f / 49.0f, () -> used(49, 1));
        due("1 of 50", 1.0f / 50.0f, () -> used(50, 1));
        due("49 of 50", 49.0f / 50.0f, () -> used(50, 49));
        due("all", 1.0f, () -> used(50, 50));
        due("one of one", 1.0f, () -> used(1, 1));
        due("of all herds", 1.0f, () -> States.full().utilization(4));
    }

    private static void meanDebt() {
        about(44, "Returns the sum of all debts divided by the number of pairs of a debtor and a "
                + "creditor with a debt above 0, both converted to double; 0.0 if there are none.");
        due("no debts", 0.0, () -> new PastureBanker().meanDebt());
        due("1 to 7", 4.0, () -> States.chain().meanDebt());
        PastureBanker mean = new PastureBanker();
        mean.lend(0, 1, 1);
        due("least", 1.0, mean::meanDebt);
        mean.lend(0, 1, 998);
        due("greatest", 999.0, mean::meanDebt);
        mean.lend(0, 4, 1);
        mean.lend(3, 4, 1);
        due("a third", 1001.0 / 3.0, mean::meanDebt);
        mean.repay(1, 0, 999);
        due("a debt that is repaid is no pair", 1.0, mean::meanDebt);
        mean.repay(4, 0, 1);
        mean.repay(4, 3, 1);
        due("all repaid", 0.0, mean::meanDebt);
    }

    private static float used(int capacity, int units) {
        PastureBanker b = Check.loaded(States.setup(1, capacity, 1, capacity));
        b.request(0, 0, units);
        return b.utilization(0);
    }

    private static void inconsistencies() {
        about(45, "Returns queuedRequests() minus queuedGrants() minus withdrawnRequests() minus the "
                + "length of the queue, plus the number of allocations that exceed the maximum "
                + "claim, plus the number of herds that reach themselves through debts; always 0.");
        Look.Build[] builds = {PastureBanker::new, States::busy, States::full, States::tiny,
            States::rich, States::chain, EdgeTest::waiting};
        for (Look.Build build : builds) {
            PastureBanker b = build.make();
            due("at first", 0, b::inconsistencies);
            int herds = b.herdCount();
            for (int herd = 0; herd < herds; herd++) {
                int h = herd;
                b.finish(h);
                due("after finish", 0, b::inconsistencies);
                b.undo();
                due("after undo", 0, b::inconsistencies);
                due("after cancel", 0, () -> cancelled(b, h));
            }
            b.save(0);
            due("after a resize", 0, () -> b.setCapacity(0, 50) * 0 + b.inconsistencies());
            b.restore(0);
            due("after restore", 0, b::inconsistencies);
        }
    }

    private static int cancelled(PastureBanker b, int herd) {
        if (b.isWaiting(herd)) {
            b.cancel(herd);
        }
        return b.inconsistencies();
    }

    // ---- changes

    private static void request() {
        about(46, "`amount`: 1 to 50");
        PastureBanker b = Check.loaded("rights;pasture a 50;herd x 50;herd y 50;");
        due("0", ARGUMENT, () -> b.request(0, 0, 0));
        due("51", ARGUMENT, () -> b.request(0, 0, 51));
        due("1", true, () -> b.request(1, 0, 1));
        due("1 given back", 0, () -> b.release(1, 0, 1));
        due("50", true, () -> b.request(0, 0, 50));
        about(46, "Returns true if the request was granted at once; false if it was appended to the "
                + "queue.");
        due("1 of 0", false, () -> b.request(1, 0, 1));
        due("in the queue", "1 ", () -> Look.queue(b));
        due("holds none", 0, () -> b.allocation(1, 0));
        due("the last unit", true, () -> {
            PastureBanker last = Check.loaded("rights;pasture a 1;herd x 1;");
            return last.request(0, 0, 1);
        });
        about(46, "Requests that are already in the queue do not matter for this decision.");
        PastureBanker queue = Check.loaded("rights;pasture a 4;herd x 4;herd y 3;herd z 1;");
        queue.request(0, 0, 2);
        due("y waits for 3 of 2", false, () -> queue.request(1, 0, 3));
        due("z is granted 1 of 2", true, () -> queue.request(2, 0, 1));
        due("x is granted 1 of 1", true, () -> queue.request(0, 0, 1));
        due("y still waits", "1 ", () -> Look.queue(queue));
        due("counters", "3 0 1 0", () -> Look.counters(queue));
    }

    private static void release() {
        about(47, "`amount`: 1 to 50");
        PastureBanker b = Check.loaded("rights;pasture a 50;herd x 50;");
        b.request(0, 0, 50);
        due("0", ARGUMENT, () -> b.release(0, 0, 0));
        due("51", ARGUMENT, () -> b.release(0, 0, 51));
        due("50", 0, () -> b.release(0, 0, 50));
        due("none left", 0, () -> b.allocation(0, 0));
        b.request(0, 0, 2);
        due("1", 0, () -> b.release(0, 0, 1));
        due("one left", 1, () -> b.allocation(0, 0));
        about(47, "Returns the number of pending requests that were granted.");
        due("an empty queue", 0, () -> b.release(0, 0, 1));
        due("seven", 7, () -> {
            PastureBanker all = oneHasAll();
            return all.release(0, 0, 7);
        });
        due("six", 6, () -> oneHasAll().release(0, 0, 6));
        due("one", 1, () -> oneHasAll().release(0, 0, 1));
        PastureBanker own = oneHasAll();
        own.release(0, 0, 1);
        own.request(0, 0, 1);
        due("one for herd 2, none for itself", 1, () -> own.release(0, 0, 1));
        due("herd 0 is at the back", "3 4 5 6 7 0 ", () -> Look.queue(own));
    }

    /** Herd 0 holds the seven units of the pasture, herds 1 to 7 wait for one each. */
    private static PastureBanker oneHasAll() {
        PastureBanker b = Check.loaded("rights;pasture a 7;herd a 7;herd b 1;herd c 1;herd d 1;"
                + "herd e 1;herd f 1;herd g 1;herd h 1;");
        b.request(0, 0, 7);
        for (int herd = 1; herd < 8; herd++) {
            b.request(herd, 0, 1);
        }
        return b;
    }

    private static void finish() {
        about(48, "its pending request is withdrawn and all of its allocations become 0.");
        PastureBanker full = States.full();
        for (int pasture = 0; pasture < 5; pasture++) {
            int p = pasture;
            due("holds one", 1, () -> full.allocation(7, p));
        }
        due("nobody can go on", 0, () -> full.finish(7));
        for (int pasture = 0; pasture < 5; pasture++) {
            int p = pasture;
            due("holds none", 0, () -> full.allocation(7, p));
            due("one is free", 1, () -> full.available(p));
        }
        due("waits no more", false, () -> full.isWaiting(7));
        due("one was withdrawn", 1, full::withdrawnRequests);
        due("a herd without a request and units", 0, () -> full.finish(7));
        due("none was withdrawn", 1, full::withdrawnRequests);
        due("it is a change", 5, full::undo);
        about(48, "Returns the number of pending requests that were granted.");
        due("an empty queue", 0, () -> new PastureBanker().finish(0));
        due("seven", 7, () -> oneHasAll().finish(0));
        due("one that waits itself", 0, () -> oneHasAll().finish(7));
        due("all wait, nobody holds", 0, () -> waiting().finish(7));
    }

    private static void cancel() {
        about(49, "Withdraws the pending request of a herd.");
        PastureBanker b = waiting();
        b.cancel(7);
        due("the front", "6 5 4 3 2 1 0 ", () -> Look.queue(b));
        b.cancel(0);
        due("the back", "6 5 4 3 2 1 ", () -> Look.queue(b));
        b.cancel(4);
        due("the middle", "6 5 3 2 1 ", () -> Look.queue(b));
        due("withdrawn", 3, b::withdrawnRequests);
        due("again", STATE, () -> b.cancel(4));
        due("a new request", false, () -> b.request(4, 0, 1));
        due("is at the back", "6 5 3 2 1 4 ", () -> Look.queue(b));
        about(49, "Returns the number of pending requests that were granted.");
        due("none", 0, () -> b.cancel(6));
        due("none of an empty queue", 0, () -> {
            PastureBanker one = States.tiny();
            one.setMaximum(0, 0, 1);
            one.request(0, 0, 1);
            return one.cancel(0);
        });
    }

    private static void setCapacity() {
        about(50, "`capacity`: 0 to 50");
        PastureBanker b = new PastureBanker();
        for (int pasture = 0; pasture < 3; pasture++) {
            int p = pasture;
            due("0", 0, () -> b.setCapacity(p, 0));
            due("is 0", 0, () -> b.capacity(p));
            due("50", 0, () -> b.setCapacity(p, 50));
            due("is 50", 50, () -> b.capacity(p));
            due("-1", ARGUMENT, () -> b.setCapacity(p, -1));
            due("51", ARGUMENT, () -> b.setCapacity(p, 51));
            due("is still 50", 50, () -> b.capacity(p));
        }
        about(50, "Sets the capacity of a pasture, even if the resulting state is not safe.");
        due("safe with 5 of ridge", true, () -> {
            b.setCapacity(2, 3);
            return b.isSafe();
        });
        due("not safe with 2", false, () -> {
            b.setCapacity(2, 2);
            return b.isSafe();
        });
        about(50, "Returns the number of pending requests that were granted.");
        due("an empty queue", 0, () -> b.setCapacity(2, 3));
        due("none", 0, () -> waiting().setCapacity(0, 0));
        due("one", 1, () -> waiting().setCapacity(0, 1));
        due("seven", 7, () -> waiting().setCapacity(0, 7));
        due("eight", 8, () -> waiting().setCapacity(0, 8));
    }

    private static void setMaximum() {
        about(51, "`maximum`: 0 to 50");
        PastureBanker b = Check.loaded(States.setup(5, 9, 8, 3));
        for (int number = 0; number < 5; number++) {
            int p = number;
            due("0", 0, () -> b.setMaximum(7, p, 0));
            due("is 0", 0, () -> b.maximum(7, p));
            due("50", 0, () -> b.setMaximum(7, p, 50));
            due("is 50", 50, () -> b.maximum(7, p));
            due("-1", ARGUMENT, () -> b.setMaximum(7, p, -1));
            due("51", ARGUMENT, () -> b.setMaximum(7, p, 51));
            due("is still 50", 50, () -> b.maximum(7, p));
            due("of another herd", 3, () -> b.maximum(6, p));
        }
        about(51, "Sets the maximum claim of a herd on a pasture, even if the resulting state is not "
                + "safe.");
        PastureBanker one = Check.loaded(States.setup(1, 9, 2, 3));
        one.setMaximum(1, 0, 9);
        due("as much as there is", true, one::isSafe);
        one.setMaximum(1, 0, 10);
        due("one more", false, one::isSafe);
        about(51, "Returns the number of pending requests that were granted.");
        due("an empty queue", 0, () -> one.setMaximum(1, 0, 9));
        PastureBanker unsafe = Check.loaded(States.setup(1, 8, 8, 1));
        unsafe.setMaximum(7, 0, 9);
        for (int herd = 0; herd < 7; herd++) {
            int h = herd;
            due("nothing is granted", false, () -> unsafe.request(h, 0, 1));
        }
        due("none", 0, () -> unsafe.setMaximum(7, 0, 10));
        due("seven", 7, () -> unsafe.setMaximum(7, 0, 8));
    }

    private static void lendAndRepay() {
        about(52, "`amount`: 1 to 999");
        PastureBanker b = new PastureBanker();
        due("0", ARGUMENT, () -> b.lend(0, 1, 0));
        due("1000", ARGUMENT, () -> b.lend(0, 1, 1000));
        due("1", 1, () -> b.lend(0, 1, 1));
        due("999", 999, () -> b.lend(0, 2, 999));
        about(52, "Returns the new debt.");
        due("999 at last", 999, () -> b.lend(0, 1, 998));
        due("1000", STATE, () -> b.lend(0, 1, 1));
        due("of another pair", 1, () -> b.lend(1, 2, 1));
        about(53, "`amount`: 1 to 999");
        due("0", ARGUMENT, () -> b.repay(1, 0, 0));
        due("1000", ARGUMENT, () -> b.repay(1, 0, 1000));
        due("1", 998, () -> b.repay(1, 0, 1));
        due("999", 0, () -> b.repay(2, 0, 999));
        about(53, "Returns the remaining debt.");
        due("1 at last", 1, () -> b.repay(1, 0, 997));
        due("0 at last", 0, () -> b.repay(1, 0, 1));
        due("below 0", STATE, () -> b.repay(1, 0, 1));
        due("the debt may be the other way now", 5, () -> b.lend(1, 0, 5));
    }

    private static void runScript() {
        about(54, "empties the buffer, also if the text has an error.");
        for (String text : new String[] {"", "finish ann;", "cancel ann;", "x", "finish ann",
            " ".repeat(600), "$".repeat(600)}) {
            due("<" + text + ">", 0, () -> Look.length(afterScript(text)));
        }
        about(54, "A valid script is executed and counts as a single change, even if no command was "
                + "executed.");
        for (String text : new String[] {"", " \n", "cancel ann;", "cancel ann;finish ann;",
            "finish ann;", "lend ann bob 1;".repeat(30)}) {
            PastureBanker b = new PastureBanker();
            Check.script(b, text);
            due("<" + text + "> undone", 0, b::undo);
            due("only once", STATE, b::undo);
        }
        PastureBanker wrong = new PastureBanker();
        Check.script(wrong, "finish ann;x");
        due("an error is no change", STATE, wrong::undo);
        due("seven empty scripts leave six changes", 5, () -> {
            PastureBanker b = new PastureBanker();
            for (int run = 0; run < 7; run++) {
                b.runScript();
            }
            return b.undo();
        });
        about(54, "Returns the number of executed commands.");
        due("none", 0, () -> new PastureBanker().runScript());
        for (int count : new int[] {1, 2, 29, 30}) {
            due("all", count,
                    () -> Check.run(new PastureBanker(), "finish ann;".repeat(count)));
        }
        due("none of two", 0, () -> Check.run(new PastureBanker(), "cancel ann;finish ann;"));
        due("one of two", 1, () -> Check.run(new PastureBanker(), "finish ann;cancel ann;"));
    }

    // ---- undo, saved states, output

    private static void undoSaveAndRestore() {
        about(55, "Returns the number of changes that can still be undone.");
        PastureBanker b = new PastureBanker();
        for (int coins = 1; coins <= 7; coins++) {
            b.lend(0, 1, 1);
        }
        for (int left = 5; left >= 0; left--) {
            due("left", left, b::undo);
        }
        due("none left", STATE, b::undo);
        about(56, "`slot`: 0 or 1");
        due("0", 0, () -> b.save(0));
        due("1", 0, () -> b.save(1));
        due("2", INDEX, () -> b.save(2));
        due("-1", INDEX, () -> b.save(-1));
        about(56, "Returns the length of the queue.");
        due("empty", 0, () -> b.save(0));
        due("one", 1, () -> {
            PastureBanker one = oneHasAll();
            one.setCapacity(0, 13);
            return one.save(1);
        });
        due("eight", 8, () -> waiting().save(0));
        about(56, "Saves the state and replaces what was saved in the slot before.");
        replacesSlots();
        about(57, "`slot`: 0 or 1");
        due("0", 0, () -> b.restore(0));
        due("1", 0, () -> b.restore(1));
        due("2", INDEX, () -> b.restore(2));
        due("-1", INDEX, () -> b.restore(-1));
        about(57, "Restores a saved state, which stays saved, and clears the undo history.");
        PastureBanker full = States.full();
        String before = Look.state(States.full());
        full.save(0);
        for (int time = 0; time < 3; time++) {
            full.finish(time);
            full.lend(7, 0, 1);
            due("restored", 8, () -> full.restore(0));
            due("no change is left", STATE, full::undo);
        }
        due("the state", before, () -> Look.state(full));
        about(57, "Returns the length of the queue of the restored state.");
        PastureBanker eight = waiting();
        eight.save(0);
        eight.setCapacity(0, 8);
        eight.save(1);
        due("eight", 8, () -> eight.restore(0));
        due("none", 0, () -> eight.restore(1));
    }

    private static void replacesSlots() {
        for (int number = 0; number <= 1; number++) {
            int slot = number;
            PastureBanker b = waiting();
            due("all wait", 8, () -> b.save(slot));
            due("the other slot is empty", STATE, () -> b.restore(1 - slot));
            b.setCapacity(0, 5);
            due("three wait", 3, () -> b.save(slot));
            b.setCapacity(0, 8);
            due("none waits", 0, () -> b.save(1 - slot));
            due("the later one", 3, () -> b.restore(slot));
            due("capacity", 5, () -> b.capacity(0));
            due("the other one", 0, () -> b.restore(1 - slot));
            due("capacity", 8, () -> b.capacity(0));
        }
    }

    private static void output() {
        about(58, "Each herd contributes its name, a colon (byte 58) and its allocations in decimal, "
                + "separated by commas (byte 44), followed by a question mark (byte 63) if it is "
                + "waiting.");
        due("one herd, one pasture", "h:0", () -> Check.output(States.tiny()));
        PastureBanker b = Check.loaded("rights;pasture a 50;pasture b 50;herd abcdef 50 50;");
        for (int units : new int[] {1, 9, 10, 11, 19, 20, 49, 50}) {
            b.request(0, 0, units);
            due("decimal", "abcdef:" + units + ",0", () -> Check.output(b));
            b.finish(0);
        }
        b.setCapacity(1, 0);
        b.request(0, 1, 50);
        due("waiting", "abcdef:0,0?", () -> Check.output(b));
        int[] bytes = {97, 98, 99, 100, 101, 102, 58, 48, 44, 48, 63};
        for (int index = 0; index < bytes.length; index++) {
            int place = index;
            due("byte", bytes[place], () -> b.outputByte(place));
        }
        about(58, "The herds appear by ascending number with one space (byte 32) between them.");
        due("eight herds", "a:1,1,1,1,1? b:1,1,1,1,1? c:1,1,1,1,1? d:1,1,1,1,1? e:1,1,1,1,1? "
                + "f:1,1,1,1,1? g:1,1,1,1,1? h:1,1,1,1,1?", () -> Check.output(States.full()));
        due("two herds", "y:0 x:0",
                () -> Check.output(Check.loaded("rights;pasture a 1;herd y 1;herd x 1;")));
        due("space", 32, () -> States.busy().outputByte(10));
        about(58, "Returns the length of the output text in bytes.");
        due("least", 3, () -> States.tiny().writeAllocations());
        due("eight herds", 103, () -> States.full().writeAllocations());
        due("greatest", 168, () -> longest().writeAllocations());
        due("greatest", "aaaaaa:10,10,10,10,10? bbbbbb:10,10,10,10,10? cccccc:10,10,10,10,10? "
                + "dddddd:10,10,10,10,10? eeeeee:10,10,10,10,10? ffffff:0,0,0,0,0? "
                + "gggggg:0,0,0,0,0? hhhhhh:0,0,0,0,0?", () -> Check.output(longest()));
        about(58, "Writes the allocations to the output text, which is replaced.");
        PastureBanker replaced = States.busy();
        due("as it was", 50, () -> Look.output(replaced).length());
        replaced.truncate(0);
        Check.load(replaced, "rights;pasture a 1;herd x 1;");
        due("three bytes", 3, replaced::writeAllocations);
        due("no more", "x:0", () -> Look.output(replaced));
        about(59, "`index`: position in the output text, from 0");
        due("first", 120, () -> replaced.outputByte(0));
        due("last", 48, () -> replaced.outputByte(2));
        due("behind", INDEX, () -> replaced.outputByte(3));
        due("before", INDEX, () -> replaced.outputByte(-1));
        about(59, "Returns the byte.");
        due("colon", 58, () -> replaced.outputByte(1));
        replaced.request(0, 0, 1);
        due("as it was written", 48, () -> replaced.outputByte(2));
    }

    /** All names of six letters, all units of all pastures given out by tens, all waiting. */
    private static PastureBanker longest() {
        StringBuilder setup = new StringBuilder("rights;");
        for (char pasture = 'a'; pasture <= 'e'; pasture++) {
            setup.append("pasture ").append(pasture).append(" 50;");
        }
        for (char herd = 'a'; herd <= 'h'; herd++) {
            setup.append("herd ").append(String.valueOf(herd).repeat(6)).append(" 10 10 10 10 10;");
        }
        PastureBanker b = Check.loaded(setup.toString());
        for (int herd = 0; herd < 5; herd++) {
            for (int pasture = 0; pasture < 5; pasture++) {
                b.request(herd, pasture, 10);
            }
        }
        for (int herd = 0; herd < 8; herd++) {
            b.setMaximum(herd, 0, 50);
            b.request(herd, 0, 1);
        }
        return b;
    }
}
