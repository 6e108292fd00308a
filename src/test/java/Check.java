import java.util.Objects;

/** What all tests share: comparing answers, and putting a text into the input buffer. */
final class Check {
    interface Call {
        Object run();
    }

    private static int wrong = 0;
    private static int done = 0;

    private Check() {
    }

    /** The answer that is due; an exception's class, if the call is to throw exactly this one. */
    static void due(String what, Object want, Call call) {
        Object got;
        try {
            got = call.run();
        } catch (RuntimeException thrown) {
            got = thrown.getClass();
        }
        done++;
        if (!Objects.equals(want, got)) {
            wrong++;
            System.out.println(what + ": answered " + got + ", due is " + want);
        }
    }

    static void finish(String test) {
        System.out.println(test + ": " + done + " checks, " + wrong + " wrong");
        if (wrong != 0) {
            System.exit(1);
        }
    }

    /** Appends a text of characters 0 to 255 to the input buffer. */
    static void put(PastureBanker banker, String text) {
        int length = banker.append(0, 0, 0, 0, 0) - 20;
        banker.truncate(length);
        for (int from = 0; from < text.length(); from += 20) {
            int[] words = wordsAt(text, from);
            banker.append(words[0], words[1], words[2], words[3], words[4]);
        }
        banker.truncate(length + text.length());
    }

    static int[] wordsAt(String text, int from) {
        int[] words = new int[5];
        for (int index = 0; index < 20; index++) {
            int sign = from + index < text.length() ? text.charAt(from + index) : ' ';
            words[index / 4] = words[index / 4] << 8 | sign;
        }
        return words;
    }

    static PastureBanker loaded(String setup) {
        PastureBanker banker = new PastureBanker();
        put(banker, setup);
        banker.load();
        return banker;
    }

    static int run(PastureBanker banker, String script) {
        put(banker, script);
        return banker.runScript();
    }

    static String output(PastureBanker banker) {
        StringBuilder text = new StringBuilder();
        int length = banker.writeAllocations();
        for (int index = 0; index < length; index++) {
            text.append((char) banker.outputByte(index));
        }
        return text.toString();
    }
}
