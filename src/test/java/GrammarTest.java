/** Error codes and positions of setup texts and scripts (promises 4, 5, 6 and 54). */
public final class GrammarTest {
    private static final String ONE = "rights;pasture a 9;herd x 1;";

    public static void main(String[] args) {
        setupsWithoutError();
        setupsNotAllowed();
        setupsOutOfRange();
        setupNames();
        setupsTooLong();
        scriptsWithoutError();
        scriptsNotAllowed();
        scriptNames();
        scriptsTooLong();
        truncatedTexts();
        Check.finish("GrammarTest");
    }

    /** What stood behind the end of the buffer does not belong to its last token. */
    private static void truncatedTexts() {
        PastureBanker banker = new PastureBanker();
        Check.put(banker, "resize hill 12;");
        banker.truncate(13);
        Check.due("a script cut off in a number", IllegalArgumentException.class,
                banker::runScript);
        Check.due("ends there", "error 1 at 13", () -> outcome(banker, true));
        Check.put(banker, "finish anna;");
        banker.truncate(10);
        Check.due("a script cut off in a name", IllegalArgumentException.class,
                banker::runScript);
        Check.due("ends there", "error 1 at 10", () -> outcome(banker, true));
        Check.put(banker, "finish ann;x");
        banker.truncate(11);
        Check.due("a script cut off behind a command", 1, banker::runScript);
    }

    private static String outcome(PastureBanker banker, boolean threw) {
        return (threw ? "error " : "fine ") + banker.errorCode() + " at " + banker.errorPosition();
    }

    private static void setup(String text, String want) {
        PastureBanker banker = new PastureBanker();
        Check.put(banker, text);
        boolean threw = false;
        try {
            banker.load();
        } catch (IllegalArgumentException e) {
            threw = true;
        }
        boolean hasThrown = threw;
        Check.due("setup <" + text + ">", want, () -> outcome(banker, hasThrown));
        Check.due("buffer after <" + text + ">", IllegalArgumentException.class,
                () -> banker.truncate(1));
    }

    private static void script(String text, String want) {
        PastureBanker banker = new PastureBanker();
        Check.put(banker, text);
        boolean threw = false;
        try {
            banker.runScript();
        } catch (IllegalArgumentException e) {
            threw = true;
        }
        boolean hasThrown = threw;
        Check.due("script <" + text + ">", want, () -> outcome(banker, hasThrown));
        Check.due("buffer after <" + text + ">", IllegalArgumentException.class,
                () -> banker.truncate(1));
    }

    private static void setupFails(String before, String at, int code) {
        setup(before + at, "error " + code + " at " + before.length());
    }

    private static void scriptFails(String before, String at, int code) {
        script(before + at, "error " + code + " at " + before.length());
    }

    private static void setupsWithoutError() {
        String fine = "fine 0 at -1";
        setup(ONE, fine);
        setup("  rights\n;\npasture  a 9 ; herd x\n1 ;\n ", fine);
        setup("rights;pasture a9;herd x1;", fine);
        setup("rights;pasture a 0;herd x 0;", fine);
        setup("rights;pasture a 50;herd x 50;", fine);
        setup("rights;pasture a 050;herd x 000;", fine);
        setup("rights;pasture a 1;pasture b 2;herd x 1 2;herd y 0 0;", fine);
        setup("rights;pasture abcdef 9;herd uvwxyz 1;", fine);
        setup("rights;pasture a 9;herd a 1;", fine);
        setup("rights;pasture rights 1;pasture herd 2;herd herd 1 2;herd rights 0 0;", fine);
        setup("rights;pasture finish 1;herd repay 1;herd lend 1;", fine);
        setup(pastures(5) + "herd x 1 1 1 1 1;", fine);
        setup(pastures(1) + herds(8), fine);
    }

    private static void setupsNotAllowed() {
        setupFails("", "", 1);
        setupFails("   ", "", 1);
        setupFails("", "right;", 1);
        setupFails("", "rightss;", 1);
        setupFails("", "bights;", 1);
        setupFails("rights;", "gasture a 9;", 1);
        setupFails("rights;pasture a 9;", "gerd x 1;", 1);
        setupFails("", ";", 1);
        setupFails("", "7", 1);
        setupFails("rights", "", 1);
        setupFails("rights ", "pasture a 9;", 1);
        setupFails("rights;", "", 1);
        setupFails("rights;  \n", "", 1);
        setupFails("rights;", "herd x 1;", 1);
        setupFails("rights;", "meadow a 9;", 1);
        setupFails("rights;pasture ", "", 1);
        setupFails("rights;pasture ", ";", 1);
        setupFails("rights;pasture ", "9 a;", 1);
        setupFails("rights;pasture a ", "", 1);
        setupFails("rights;pasture a", ";", 1);
        setupFails("rights;pasture a ", "b 9;", 1);
        setupFails("rights;pasture a 9", "", 1);
        setupFails("rights;pasture a 9 ", "9;", 1);
        setupFails("rights;pasture a 9 ", "99;", 1);
        setupFails("rights;pasture a 9 ", "herd x 1;", 1);
        setupFails("rights;pasture a 9;", "", 1);
        setupFails("rights;pasture a 9; ", ";", 1);
        setupFails("rights;pasture a 9;", "x 1;", 1);
        setupFails("rights;pasture a 9;herd ", "", 1);
        setupFails("rights;pasture a 9;herd ", "1;", 1);
        setupFails("rights;pasture a 9;herd x", "", 1);
        setupFails("rights;pasture a 9;herd x", ";", 1);
        setupFails("rights;pasture a 9;herd x ", "y 1;", 1);
        setupFails("rights;pasture a 9;herd x 1", "", 1);
        setupFails("rights;pasture a 9;herd x 1 ", "1;", 1);
        setupFails("rights;pasture a 9;herd x 1 ", "99;", 1);
        setupFails("rights;pasture a 9;herd x 1 ", "herd y 1;", 1);
        setupFails("rights;pasture a 9;pasture b 9;herd x 1", ";", 1);
        setupFails("rights;pasture a 9;pasture b 9;herd x 1 1 ", "1;", 1);
        setupFails(ONE, ";", 1);
        setupFails(ONE, "7", 1);
        setupFails(ONE, "pasture b 9;", 1);
        setupFails(ONE, "rights;", 1);
        setupFails(ONE, "her", 1);
        setupInvalidTokens();
    }

    private static void setupInvalidTokens() {
        setupFails("", "Rights;", 1);
        setupFails("rights;pasture ", "abcdefghi 9;", 1);
        setupFails("rights;pasture a ", "0009;", 1);
        setupFails("rights;pasture a ", "-9;", 1);
        setupFails("rights;pasture a 9", ".5;", 1);
        setupFails("rights;pasture a", "_b 9;", 1);
        setupFails("rights;pasture a 9;herd x ", "0001;", 1);
        setupFails("rights;pasture a 9;herd x ", "1234567890123456789012345678901;", 1);
        setupFails(ONE, "\t", 1);
        setupFails(ONE, "\r\n", 1);
        setupFails(ONE, "\0", 1);
        setupFails(ONE, "\u00ff", 1);
        setupFails(ONE, "\u00e1", 1);
        setupFails(ONE, "`", 1);
        setupFails(ONE, "{", 1);
        setupFails(ONE, "/", 1);
        setupFails(ONE, ":", 1);
        setupFails(ONE, "herdsmann", 1);
    }

    private static void setupsOutOfRange() {
        setupFails("rights;pasture a ", "51;", 2);
        setupFails("rights;pasture a ", "999;", 2);
        setupFails("rights;pasture a 9;herd x ", "10;", 2);
        setupFails("rights;pasture a 50;herd x ", "51;", 2);
        setupFails("rights;pasture a 0;herd x ", "1;", 2);
        setupFails("rights;pasture a 9;pasture b 2;herd x 3 ", "3;", 2);
        setupFails("rights;pasture a 2;pasture b 9;herd x ", "3 3;", 2);
        setupFails("rights;pasture a ", "51 $ abcdefg", 2);
    }

    private static void setupNames() {
        setupFails("rights;pasture ", "abcdefg 9;", 3);
        setupFails("rights;pasture ", "abcdefgh 9;", 3);
        setupFails("rights;pasture a 9;pasture ", "a 9;", 3);
        setupFails("rights;pasture a 9;pasture b 9;pasture ", "a 9;", 3);
        setupFails("rights;pasture a 9;herd ", "abcdefg 1;", 3);
        setupFails(ONE + "herd ", "x 1;", 3);
        setupFails(ONE + "herd y 1;herd ", "y 1;", 3);
        setup(ONE + "herd xx 1;herd y 1;herd yx 1;", "fine 0 at -1");
    }

    private static String pastures(int count) {
        StringBuilder text = new StringBuilder("rights;");
        for (int pasture = 0; pasture < count; pasture++) {
            text.append("pasture ").append((char) ('a' + pasture)).append(" 1;");
        }
        return text.toString();
    }

    private static String herds(int count) {
        StringBuilder text = new StringBuilder();
        for (int herd = 0; herd < count; herd++) {
            text.append("herd ").append((char) ('a' + herd)).append(" 1;");
        }
        return text.toString();
    }

    private static void setupsTooLong() {
        setupFails(pastures(5), "pasture f 1;", 4);
        setupFails(pastures(5), "pasture", 4);
        setupFails(pastures(5), "pastures", 1);
        setupFails(pastures(5), "meadow", 1);
        setupFails(pastures(5), "", 1);
        setupFails(pastures(1) + herds(8), "herd i 1;", 4);
        setupFails(pastures(1) + herds(8), "herd", 4);
        setupFails(pastures(1) + herds(8), "herds", 1);
        setupFails(pastures(1) + herds(8), "pasture b 1;", 1);
        setupFails(pastures(1) + herds(8), ";", 1);
    }

    private static void scriptsWithoutError() {
        String fine = "fine 0 at -1";
        script("", fine);
        script(" \n ", fine);
        script("request ann hill 1;", fine);
        script("request ann hill 1;release ann hill 1;finish ann;cancel ann;", fine);
        script("lend ann bob 1;repay bob ann 1;resize fen 5;", fine);
        script("request ann hill 999;", fine);
        script("request ann hill 0;", fine);
        script("resize hill 051;", fine);
        script("lend ann ann 7;", fine);
        script("\nfinish\n\nann ; ", fine);
        script("request ann hill1;finish bob;", fine);
    }

    private static void scriptsNotAllowed() {
        scriptFails("", ";", 1);
        scriptFails("", "7", 1);
        scriptFails("", "graze ann;", 1);
        scriptFails("", "requests ann hill 1;", 1);
        scriptFails("", "reques ann hill 1;", 1);
        scriptFails("", "fequest ann hill 1;", 1);
        scriptFails("", "ann;", 1);
        scriptFails("request ", "", 1);
        scriptFails("request ", "1 hill 1;", 1);
        scriptFails("request ann ", "", 1);
        scriptFails("request ann ", "1;", 1);
        scriptFails("request ann hill", ";", 1);
        scriptFails("request ann hill ", "fen;", 1);
        scriptFails("request ann hill 1", "", 1);
        scriptFails("request ann hill 1 ", "2;", 1);
        scriptFails("request ann hill 1 ", "finish ann;", 1);
        scriptFails("request ann hill ", "1000;", 1);
        scriptFails("request ann hill ", "0001;", 1);
        scriptFails("request ann hill ", "-1;", 1);
        scriptFails("release ann hill", ";", 1);
        scriptFails("finish", ";", 1);
        scriptFails("finish ann ", "hill;", 1);
        scriptFails("finish ann ", "1;", 1);
        scriptFails("finish ann", "", 1);
        scriptFails("finish ann  ", "", 1);
        scriptFails("cancel ann ", "1;", 1);
        scriptFails("lend ann bob", ";", 1);
        scriptFails("lend ann ", "5;", 1);
        scriptFails("repay ann bob", ";", 1);
        scriptFails("resize ", "5;", 1);
        scriptFails("resize fen", ";", 1);
        scriptFails("resize fen 5 ", "5;", 1);
        scriptFails("finish ann;", "rights;", 1);
        scriptFails("finish ", "Ann;", 1);
        scriptFails("finish ", "abcdefghi;", 1);
        scriptFails("finish ann", ",bob;", 1);
        scriptFails("finish ann;", "\u0080", 1);
    }

    private static void scriptNames() {
        scriptFails("finish ", "zoe;", 3);
        scriptFails("finish ", "an;", 3);
        scriptFails("finish ", "anna;", 3);
        scriptFails("finish ", "hill;", 3);
        scriptFails("finish ", "abcdefg;", 3);
        scriptFails("finish ", "abcdefgh;", 3);
        scriptFails("request ann ", "ann 1;", 3);
        scriptFails("request ann ", "moor 1;", 3);
        scriptFails("request ", "hill ann 1;", 3);
        scriptFails("release ann ", "bob 1;", 3);
        scriptFails("lend ann ", "hill 1;", 3);
        scriptFails("lend ", "hill ann 1;", 3);
        scriptFails("repay ann ", "fen 1;", 3);
        scriptFails("cancel ", "fen;", 3);
        scriptFails("resize ", "ann 5;", 3);
    }

    private static String finishes(int count) {
        StringBuilder text = new StringBuilder();
        for (int command = 0; command < count; command++) {
            text.append("finish ann;");
        }
        return text.toString();
    }

    private static void scriptsTooLong() {
        script(finishes(30), "fine 0 at -1");
        scriptFails(finishes(30), "finish ann;", 4);
        scriptFails(finishes(30), "resize", 4);
        scriptFails(finishes(30), "graze", 1);
        scriptFails(finishes(30), ";", 1);
        scriptFails(finishes(30), "5", 1);
        scriptFails(finishes(30), "finishing", 1);
        scriptFails(finishes(29) + "finish ", "zoe;finish ann;", 3);
    }
}
