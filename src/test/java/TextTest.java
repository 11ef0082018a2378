import java.util.Random;

/** Texts made up by draws (always the same ones), most of them nearly right: every FAULT is held against SlowReader's. */
public final class TextTest {
    private static final Bench BENCH = new Bench();
    private static final int TEXTS = 30000;
    private static final String[] KINDS = {"plain", "big", "early", "leap"};
    private static final String[] HOUSES = {"a", "b", "loud", "abcdefgh", "m"};
    private static final String[] DAYS = {"p", "q", "times", "ijklmnop", "u", "v", "w"};
    /** For the YEAR, where the VALE drawn has a FAULT. */
    private static final String RIGHT = "house a beds 1 ; house b beds 6 ; day p big of a on 0 says 0 ; "
        + "day q leap of b on 11 says 40 ; ";
    private static final String[] ODD = {"abcdefghi", "00000", "12345", "not", "or", "big", "of", "date", "house", "day",
        "stays", "fades", "lends", "x", "A", "_", "~", "!", "(", ")", "<", "=", "+", "-", "*", ";", ";;", "0", "41", "7"};
    private static final String[] FACTS = {"loud", "full", "month", "times", "0", "9999", "12"};
    private static final String[] JOINTS = {"+", "-", "*", "<", "=", "and", "or", "*"};

    private final Random random;
    private final int oddness;
    private final int[] kinds;
    private StringBuilder text = new StringBuilder();
    private int houses;
    private int days;

    private TextTest(int seed, int[] kinds) {
        random = new Random(seed);
        oddness = 20 << random.nextInt(6);
        this.kinds = kinds;
    }

    public static void main(String[] args) {
        int[] kinds = new int[6];
        for (int seed = 0; seed < TEXTS; seed++) {
            new TextTest(seed, kinds).run();
        }
        // Draws that never come to a kind would try nothing of it.
        for (int kind = 0; kind <= 5; kind++) {
            BENCH.due("texts of the kind " + kind + ", " + kinds[kind] + ", are many", kinds[kind] > TEXTS / 50, true);
        }
        BENCH.end("TextTest");
    }

    private void run() {
        DateVale vale = new DateVale();
        SlowReader slow = SlowReader.ofVale();
        makeVale();
        String told = cut();
        int fault = slow.fault(told);
        kinds[fault % 16]++;
        BENCH.due("vale() of " + told, Bench.tell(vale, told), fault);
        BENCH.due("signs behind " + told, vale.count(12), 0);
        BENCH.due("HOUSES of " + told, vale.count(0), fault == 0 ? slow.houses.size() : 0);
        BENCH.due("DAYS of " + told, vale.count(1), fault == 0 ? slow.days.size() : 0);
        if (fault != 0) {
            slow = SlowReader.ofVale();
            BENCH.due("vale() of " + RIGHT + " by SlowReader", slow.fault(RIGHT), 0);
            BENCH.due("vale() of " + RIGHT + " behind " + told, Bench.tell(vale, RIGHT), 0);
            houses = slow.houses.size();
            days = slow.days.size();
        }
        SlowReader year = SlowReader.ofYear(slow);
        text = new StringBuilder();
        makeYear();
        String lines = cut();
        fault = year.fault(lines);
        kinds[fault % 16]++;
        BENCH.due("year() of " + lines + " behind " + told, Bench.tellYear(vale, lines), fault);
        BENCH.due("lines of " + lines, vale.count(9), fault == 0 ? year.lines : 0);
    }

    /** The TAPE has no more than this. */
    private String cut() {
        return text.substring(0, Math.min(1000, text.length()));
    }

    private void makeVale() {
        int lines = random.nextInt(22);
        // Drawn pairs are soon told twice, and nothing beyond that is read.
        boolean pairless = random.nextBoolean();
        for (int line = 0; line < lines; line++) {
            int sort = line < 2 ? 0 : line < 4 ? 1 : random.nextInt(pairless ? 5 : 10);
            switch (sort) {
                case 0:
                    put("house", newHouse(), "beds", number(1, 6), ";");
                    break;
                case 1:
                case 2:
                    put("day", newDay(), KINDS[random.nextInt(4)], "of", house(), "on", number(0, 11),
                        "says", number(0, 40), ";");
                    break;
                case 3:
                    put("stays", number(1, 4), ";");
                    break;
                case 4:
                    put("fades");
                    makeLaw();
                    put(";");
                    break;
                case 5:
                case 6:
                    put("lends", house(), house(), ";");
                    break;
                default:
                    put("clash", day(), day(), ";");
                    break;
            }
        }
    }

    private void makeYear() {
        int lines = random.nextInt(4) == 0 ? 38 + random.nextInt(5) : random.nextInt(9);
        for (int line = 0; line < lines; line++) {
            switch (lines > 9 ? random.nextInt(2) * 9 : random.nextInt(6)) {
                case 0:
                    put("move", day(), house(), ";");
                    break;
                case 1:
                    put("send", day(), ";");
                    break;
                case 2:
                    put("build", house(), ";");
                    break;
                default:
                    put("date", ";");
                    break;
            }
        }
    }

    private void makeLaw() {
        int open = 0;
        int nesting = 2 + random.nextInt(3);
        int parts = 1 + random.nextInt(12);
        for (int part = 0; part < parts; part++) {
            while (random.nextInt(nesting) == 0) {
                boolean denied = random.nextBoolean();
                put(denied ? "not" : "(");
                open += denied ? 0 : 1;
            }
            put(FACTS[random.nextInt(FACTS.length)]);
            while (open > 0 && random.nextInt(2) == 0) {
                put(")");
                open--;
            }
            if (part + 1 < parts) {
                put(JOINTS[random.nextInt(JOINTS.length)]);
            }
        }
        while (open > 0) {
            put(")");
            open--;
        }
    }

    private String number(int least, int most) {
        boolean beyond = random.nextInt(60) == 0;
        int number = least + random.nextInt(most - least + 1);
        return "" + (beyond ? most + 1 + random.nextInt(3) : number == least && random.nextInt(9) == 0 ? 0 : number);
    }

    private String newHouse() {
        return odd(HOUSES[houses++ % HOUSES.length], DAYS);
    }

    private String newDay() {
        return odd(DAYS[days++ % DAYS.length], HOUSES);
    }

    private String house() {
        return odd(HOUSES[random.nextInt(Math.max(1, Math.min(houses, HOUSES.length)))], DAYS);
    }

    private String day() {
        return odd(DAYS[random.nextInt(Math.max(1, Math.min(days, DAYS.length)))], HOUSES);
    }

    private String odd(String name, String[] others) {
        return random.nextInt(60) == 0 ? others[random.nextInt(others.length)] : name;
    }

    /** Now and then a token is left out, put twice, or is an odd one; now and then no blank stands between two. */
    private void put(String... tokens) {
        for (String token : tokens) {
            int sort = random.nextInt(oddness);
            if (sort != 0) {
                text.append(sort == 1 ? ODD[random.nextInt(ODD.length)] : token);
                blank();
            }
            if (sort == 2) {
                text.append(token);
                blank();
            }
        }
    }

    private void blank() {
        int sort = random.nextInt(oddness);
        text.append(sort == 0 ? "" : sort == 1 ? "\n" : sort == 2 ? " \n  " : " ");
    }
}
