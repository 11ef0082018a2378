/** What the tests share: texts onto the TAPE, and answers held against those that are due. */
final class Bench {
    private int asked;
    private int wrong;

    void due(String what, long got, long want) {
        asked++;
        if (got != want) {
            wrong++;
            System.out.println(what + " answered " + got + ", due is " + want);
        }
    }

    void due(String what, boolean got, boolean want) {
        due(what, got ? 1 : 0, want ? 1 : 0);
    }

    /** Ends the test: exit code 1 if an answer was not the one due, or if nothing was asked. */
    void end(String name) {
        System.out.println(name + ": " + asked + " answers, " + wrong + " not as due");
        if (wrong != 0 || asked == 0) {
            System.exit(1);
        }
    }

    static void feed(DateVale vale, String text) {
        for (int at = 0; at < text.length(); at += 24) {
            vale.feed(pack(text, at), pack(text, at + 8), pack(text, at + 16));
        }
    }

    private static long pack(String text, int from) {
        long bytes = 0;
        for (int at = from; at < from + 8; at++) {
            bytes = bytes << 8 | (at < text.length() ? text.charAt(at) : 0);
        }
        return bytes;
    }

    /** The VALE's answer to a text. */
    static int tell(DateVale vale, String text) {
        feed(vale, text);
        return vale.vale();
    }

    static int tellYear(DateVale vale, String text) {
        feed(vale, text);
        return vale.year();
    }

    DateVale told(String text) {
        DateVale vale = new DateVale();
        due("vale() of " + text, tell(vale, text), 0);
        return vale;
    }

    static void dates(DateVale vale, int dates) {
        for (int gone = 0; gone < dates; gone++) {
            vale.date();
        }
    }
}
