import java.util.NoSuchElementException;
import java.util.Random;

/** Any calls with any arguments in any state: nothing is thrown but what the document names, and all ends. */
public final class HardyTest {
    private static final int OBJECTS = 900;
    private static final int CALLS = 512;
    /** The calls that a text of 1,000 signs takes: 42 feed it, one reads it. */
    private static final int A_TEXT = 43;
    private static final int[] EDGES = {
        Integer.MIN_VALUE, Integer.MIN_VALUE + 1, -65, -3, -2, -1, 0, 1, 2, 3, 4, 5, 6, 7, 8, 9, 10, 11, 12, 13, 23, 24,
        25, 31, 32, 35, 36, 37, 59, 60, 61, 63, 64, 98, 99, 100, 9999, 10000, Integer.MAX_VALUE - 1, Integer.MAX_VALUE,
    };
    private static final String[] TOKENS = ("house beds lends day of on says clash stays fades date move send build plain "
        + "big early leap not and or loud full month times a b c d e f g h i j 0 1 2 3 6 7 11 12 40 41 9999 10000 "
        + "( ) < = + - * ; ; ; ; abcdefgh abcdefghi A ? ~").split(" ");
    private static final String[] VALES = {
        "house a beds 1 ; house b beds 2 ; lends a b ; day c plain of a on 1 says 40 ; day d big of b on 2 says 9 ; "
            + "day e early of a on 2 says 5 ; day f leap of b on 1 says 3 ; clash c e ; stays 3 ; "
            + "fades loud - full * 9999 * 9999 + times ; ",
        "house a beds 6 ; house b beds 6 ; house c beds 6 ; house d beds 6 ; lends a b ; lends a c ; lends a d ; "
            + "lends b c ; lends b d ; lends c d ; day e big of a on 0 says 40 ; day f big of a on 0 says 40 ; "
            + "day g big of a on 0 says 40 ; day h big of a on 0 says 40 ; day i big of a on 0 says 40 ; "
            + "day j big of a on 0 says 40 ; stays 4 ; fades 9 ; ",
        "house a beds 1 ; ",
        "",
    };

    private final Random random;
    private final DateVale vale = new DateVale();
    private int calls;

    private HardyTest(int seed) {
        random = new Random(seed);
    }

    public static void main(String[] args) {
        Bench bench = new Bench();
        for (int seed = 0; seed < OBJECTS; seed++) {
            HardyTest test = new HardyTest(seed);
            while (test.calls + A_TEXT <= CALLS) {
                bench.due("object " + seed + ", call " + test.calls, test.callOne(), true);
            }
        }
        bench.end("HardyTest");
    }

    private boolean callOne() {
        int which = random.nextInt(40);
        calls += which == 37 || which == 38 ? A_TEXT : 1;
        try {
            call(which, pick(), pick(), pick(), pick());
            return true;
        } catch (NoSuchElementException none) {
            return which == 33;
        } catch (RuntimeException thrown) {
            thrown.printStackTrace(System.out);
            return false;
        }
    }

    private int pick() {
        return random.nextInt(3) > 0 ? random.nextInt(7) - 1 : EDGES[random.nextInt(EDGES.length)];
    }

    private void call(int which, int a, int b, int c, int d) {
        switch (which) {
            case 2: vale.feed(random.nextLong(), random.nextLong(), random.nextLong()); break;
            case 3: vale.vale(); break;
            case 4: vale.year(); break;
            case 5: vale.house(a, b); break;
            case 6: vale.day(a, b); break;
            case 8: vale.move(a, b); break;
            case 9: vale.send(a); break;
            case 10: vale.build(a); break;
            case 11: vale.undo(); break;
            case 12: vale.judged(a); break;
            case 13: vale.where(a, b); break;
            case 14: vale.next(a); break;
            case 15: vale.gone(a); break;
            case 16: vale.crowd(); break;
            case 17: vale.refused(a); break;
            case 18: vale.meets(a, b); break;
            case 19: vale.beds(a, b); break;
            case 20: vale.laying(); break;
            case 21: vale.apart(); break;
            case 22: vale.defer(a); break;
            case 23: vale.see(a, b); break;
            case 24: vale.who(); break;
            case 25: vale.look(); break;
            case 26: vale.through(a, b); break;
            case 27: vale.quiet(); break;
            case 28: vale.peace(); break;
            case 29: vale.loudest(); break;
            case 30: vale.eldest(a); break;
            case 31: vale.spare(); break;
            case 32: vale.chance(a, b, c); break;
            case 33: vale.rests(a, b, c, d); break;
            case 34: vale.ages(a, b, c); break;
            case 35: vale.mark(a, random.nextBoolean()); break;
            case 36: vale.count(a); break;
            case 37: tellTokens(); break;
            case 38: Bench.tell(vale, VALES[random.nextInt(VALES.length)]); break;
            default: vale.date(); break;
        }
    }

    /** A row of tokens, at times behind a VALE that is whole, at times a law of fading of 1,000 signs. */
    private void tellTokens() {
        StringBuilder text = new StringBuilder(random.nextBoolean() ? VALES[random.nextInt(VALES.length)] : "");
        if (random.nextInt(4) == 0) {
            text.append("fades 1");
            String[] joints = {"+1", "-1", "*2", " and 1", "-(1)", "<1 or 1"};
            while (text.length() < 990) {
                text.append(joints[random.nextInt(joints.length)]);
            }
            text.append(';');
        } else {
            int tokens = random.nextInt(60);
            for (int token = 0; token < tokens; token++) {
                text.append(TOKENS[random.nextInt(TOKENS.length)]).append(' ');
            }
        }
        Bench.feed(vale, text.toString());
        if (random.nextBoolean()) {
            vale.vale();
        } else {
            vale.year();
        }
    }
}
