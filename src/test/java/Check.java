import java.util.Objects;

/** What all tests share: comparing answers, and putting a text into the input buffer. */
final class Check {
    interface Call {
        Object run();
    }

    private static int wrong = 0;
    private static int done = 0;
    private static int doneBefore = -1;
    private static String about = "";

    private Check() {
    }

    /** The answer that is due; an exception's class, if the call is to throw exactly this one. */
    static void due(String what, Object want, Call call) {
        Object got;
        try {
            got = call.run();
        } catch (RuntimeException thrown) {
            got = thrown.getClass();
        }
        done++;
        if (!Objects.equals(want, got)) {
            wrong++;
            System.out.println(about + what + ": answered " + got + ", due is " + want);
        }
    }

    /** Tells what the next checks are about; there must be more than the one that it is there. */
    static void about(String subject) {
        if (doneBefore >= 0 && done < doneBefore + 2) {
            wrong++;
            System.out.println(about + "is not tested");
        }
        doneBefore = done;
        about = subject + ": ";
    }

    /** Ends a test; another one may begin behind it if nothing was wrong. */
    static void finish(String test) {
        System.out.println(test + ": " + done + " checks, " + wrong + " wrong");
        if (wrong != 0) {
            System.exit(1);
        }
        done = 0;
        doneBefore = -1;
        about = "";
    }

    /** Appends a text of characters 0 to 255 to the input buffer. */
    static void put(PastureBanker banker, String text) {
        int length = banker.append(0, 0, 0, 0, 0) - 20;
        banker.truncate(length);
        for (int from = 0; from < text.length(); from += 20) {
            int[] words = wordsAt(text, from);
            banker.append(words[0], words[1], words[2], words[3], words[4]);
        }
        banker.truncate(length + text.length());
    }

    static int[] wordsAt(String text, int from) {
        int[] words = new int[5];
        for (int index = 0; index < 20; index++) {
            int sign = from + index < text.length() ? text.charAt(from + index) : ' ';
            words[index / 4] = words[index / 4] << 8 | sign;
        }
        return words;
    }

    static PastureBanker loaded(String setup) {
        PastureBanker banker = new PastureBanker();
        put(banker, setup);
        banker.load();
        return banker;
    }

    static int run(PastureBanker banker, String script) {
        put(banker, script);
        return banker.runScript();
    }

    /** Loads the text into an object: how many herds it has, or the error. */
    static String load(PastureBanker banker, String text) {
        put(banker, text);
        try {
            return "loaded " + banker.load() + noError(banker);
        } catch (IllegalArgumentException e) {
            return codes(banker);
        }
    }

    /** Runs the text on an object: how many commands were executed, or the error. */
    static String script(PastureBanker banker, String text) {
        put(banker, text);
        try {
            return "ran " + banker.runScript() + noError(banker);
        } catch (IllegalArgumentException e) {
            return codes(banker);
        }
    }

    private static String noError(PastureBanker banker) {
        boolean isClear = banker.errorCode() == 0 && banker.errorPosition() == PastureBanker.NONE;
        return isClear ? "" : " without an exception, but with " + codes(banker);
    }

    static String codes(PastureBanker banker) {
        return "error " + banker.errorCode() + " at " + banker.errorPosition();
    }

    static String output(PastureBanker banker) {
        StringBuilder text = new StringBuilder();
        int length = banker.writeAllocations();
        for (int index = 0; index < length; index++) {
            text.append((char) banker.outputByte(index));
        }
        return text.toString();
    }
}
