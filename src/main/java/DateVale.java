import java.util.Arrays;
import java.util.NoSuchElementException;

/** A hospitable vale, to whose houses anniversaries come to stay. DOC.md tells what each call promises. */
public final class DateVale {
    public static final int NONE = -1;

    private static final int OTHERS = -2;

    private static final int MOST_SIGNS = 1000;
    private static final int MOST_HOUSES = 4;
    private static final int MOST_DAYS = 6;
    private static final int MOST_LINES = 40;
    private static final int MOST_BEDS = 9;
    private static final int MOST_SEEN = 8;
    private static final int MOST_UNDONE = 16;
    private static final int MARKS = 4;
    private static final int DATES_A_YEAR = 12;

    private static final int PLAIN = 0;
    private static final int BIG = 1;
    private static final int EARLY = 2;
    private static final int LEAP = 3;

    private static final int LINE_DATE = 0;
    private static final int LINE_MOVE = 1;
    private static final int LINE_SEND = 2;
    private static final int LINE_BUILD = 3;

    private static final int CANT_STAND = 1;
    private static final int NOT_TOLD = 2;
    private static final int TOLD_ALREADY = 3;
    private static final int BAD_NUMBER = 4;
    private static final int TOO_MANY = 5;

    private static final int FAR_AHEAD = 60;
    private static final int FADING_AHEAD = 99;
    private static final int SEEING_AHEAD = 24;
    private static final int PLANNING_AHEAD = 24;

    private final Tape tape;
    private final Stand now;
    /** Where questions let DATES go by, so that none of them touches what is now. */
    private final Stand ahead;
    private final History history;
    private final Mark[] marks;
    private final Seen seen;
    /** The beds tried for each HOUSE by BEDS, the room left in each by LAYING. */
    private final int[] row;
    /** The DAYS laid in each HOUSE by LAYING. */
    private final int[] laid;
    /** By APART: the fewest HOUSES for each set of DAYS. */
    private final int[] fewest;
    private Vale told;
    private Vale spareVale;
    private Plan plan;
    private Plan sparePlan;
    private long drawn;

    public DateVale() {
        tape = new Tape();
        now = new Stand();
        ahead = new Stand();
        history = new History();
        marks = new Mark[MARKS];
        for (int mark = 0; mark < MARKS; mark++) {
            marks[mark] = new Mark();
        }
        seen = new Seen();
        row = new int[MOST_HOUSES];
        laid = new int[MOST_HOUSES];
        fewest = new int[1 << MOST_DAYS];
        told = new Vale();
        spareVale = new Vale();
        plan = new Plan();
        sparePlan = new Plan();
    }

    public int feed(long a, long b, long c) {
        feedBytes(a);
        feedBytes(b);
        feedBytes(c);
        return tape.length;
    }

    private void feedBytes(long bytes) {
        for (int shift = 56; shift >= 0; shift -= 8) {
            tape.add((int) (bytes >>> shift) & 255);
        }
    }

    public int vale() {
        int fault = Reader.readVale(tape, spareVale);
        tape.length = 0;
        if (fault == 0) {
            Vale old = told;
            told = spareVale;
            spareVale = old;
            startAnew();
        }
        return fault;
    }

    private void startAnew() {
        now.begin(told);
        plan.lines = 0;
        seen.size = 0;
        history.size = 0;
        for (int mark = 0; mark < MARKS; mark++) {
            marks[mark].laid = false;
        }
    }

    public int year() {
        int fault = Reader.readPlan(tape, told, sparePlan);
        tape.length = 0;
        if (fault == 0) {
            Plan old = plan;
            plan = sparePlan;
            sparePlan = old;
        }
        return fault;
    }

    public int house(int house, int what) {
        if (!isHouse(house)) {
            return OTHERS;
        }
        switch (what) {
            case 0:
                return now.beds[house];
            case 1:
                return now.freeBeds(told, house);
            case 2:
                return now.guests(told, house);
            case 3:
                return told.lenders[house];
            case 4:
                return now.talk(told, house);
            default:
                return OTHERS;
        }
    }

    public int day(int day, int what) {
        if (!isDay(day)) {
            return OTHERS;
        }
        switch (what) {
            case 0:
                return told.kind[day];
            case 1:
                return told.home[day];
            case 2:
                return told.on[day];
            case 3:
                return now.says[day];
            case 4:
                return now.at[day];
            case 5:
                return now.been[day];
            case 6:
                return now.times[day];
            case 7:
                return told.foes[day];
            default:
                return OTHERS;
        }
    }

    public int date() {
        history.keep(now);
        now.passDate(told);
        return now.came;
    }

    public boolean move(int day, int house) {
        if (!isDay(day) || !isHouse(house) || !now.canShift(told, day, house)) {
            return false;
        }
        history.keep(now);
        now.shift(day, house);
        return true;
    }

    public boolean send(int day) {
        if (!isDay(day) || now.at[day] == NONE) {
            return false;
        }
        history.keep(now);
        now.leave(day);
        return true;
    }

    public int build(int house) {
        if (!isHouse(house) || now.beds[house] >= MOST_BEDS) {
            return NONE;
        }
        history.keep(now);
        now.beds[house]++;
        return now.beds[house];
    }

    public boolean undo() {
        return history.bringBack(now);
    }

    public int judged(int what) {
        if (!within(what, 0, 2)) {
            return OTHERS;
        }
        int impossible = NONE;
        int turning = NONE;
        ahead.begin(told);
        for (int line = 0; line < plan.lines; line++) {
            int before = ahead.turnedOff;
            boolean can = plan.carryOut(line, told, ahead);
            if (!can && impossible == NONE) {
                impossible = line;
            }
            if (ahead.turnedOff > before && turning == NONE) {
                turning = line;
            }
        }
        if (what == 0) {
            return impossible;
        }
        return what == 1 ? turning : ahead.turnedOff;
    }

    public int where(int day, int dates) {
        if (!isDay(day) || !within(dates, 0, FAR_AHEAD)) {
            return OTHERS;
        }
        ahead.copyFrom(now);
        for (int gone = 0; gone < dates; gone++) {
            ahead.passDate(told);
        }
        return ahead.at[day];
    }

    public int next(int day) {
        if (!isDay(day)) {
            return NONE;
        }
        ahead.copyFrom(now);
        for (int behind = 1; behind <= FAR_AHEAD; behind++) {
            ahead.passDate(told);
            if (has(ahead.came | ahead.off, day)) {
                return behind;
            }
        }
        return NONE;
    }

    public int gone(int day) {
        if (!isDay(day)) {
            return NONE;
        }
        ahead.copyFrom(now);
        for (int behind = 0; behind <= FADING_AHEAD; behind++) {
            if (ahead.says[day] == 0) {
                return behind;
            }
            ahead.passDate(told);
        }
        return NONE;
    }

    public int crowd() {
        int best = 0;
        int most = -1;
        ahead.copyFrom(now);
        for (int behind = 0; behind <= FAR_AHEAD; behind++) {
            int here = Integer.bitCount(ahead.somewhere(told));
            if (here > most) {
                most = here;
                best = behind;
            }
            ahead.passDate(told);
        }
        return best;
    }

    public int refused(int what) {
        if (!within(what, 0, 1)) {
            return NONE;
        }
        ahead.copyFrom(now);
        for (int behind = 1; behind <= FAR_AHEAD; behind++) {
            ahead.passDate(told);
            if (ahead.off != 0) {
                return what == 0 ? behind : Integer.numberOfTrailingZeros(ahead.off);
            }
        }
        return NONE;
    }

    public int meets(int day, int other) {
        if (!isDay(day) || !isDay(other) || day == other) {
            return NONE;
        }
        ahead.copyFrom(now);
        for (int behind = 0; behind <= FAR_AHEAD; behind++) {
            if (ahead.at[day] != NONE && ahead.at[day] == ahead.at[other]) {
                return behind;
            }
            ahead.passDate(told);
        }
        return NONE;
    }

    public int beds(int dates, int house) {
        if (!within(dates, 1, 36) || (house != NONE && !isHouse(house))) {
            return OTHERS;
        }
        int together = fewestBeds(dates);
        if (together == NONE) {
            return OTHERS;
        }
        return house == NONE ? together : row[house];
    }

    /** Leaves the least row of the fewest beds in row; NONE if no row serves. */
    private int fewestBeds(int dates) {
        int rows = 1;
        for (int house = 0; house < told.houses; house++) {
            rows *= 3;
        }
        for (int together = 0; together <= 2 * told.houses; together++) {
            for (int number = 0; number < rows; number++) {
                if (layRow(number) == together && buildRow() && noneTurnedOff(dates)) {
                    return together;
                }
            }
        }
        return NONE;
    }

    /** The first HOUSE is the highest digit, so that rows come by their numbers from the least. */
    private int layRow(int number) {
        int together = 0;
        int rest = number;
        for (int house = told.houses - 1; house >= 0; house--) {
            row[house] = rest % 3;
            together += row[house];
            rest /= 3;
        }
        return together;
    }

    private boolean buildRow() {
        ahead.copyFrom(now);
        for (int house = 0; house < told.houses; house++) {
            ahead.beds[house] += row[house];
            if (ahead.beds[house] > MOST_BEDS) {
                return false;
            }
        }
        return true;
    }

    private boolean noneTurnedOff(int dates) {
        for (int behind = 0; behind < dates; behind++) {
            ahead.passDate(told);
            if (ahead.off != 0) {
                return false;
            }
        }
        return true;
    }

    public int laying() {
        for (int house = 0; house < told.houses; house++) {
            row[house] = now.beds[house];
            laid[house] = 0;
        }
        return waysFrom(0);
    }

    /** In how many ways the DAYS from this one on can be laid beside those that lie already. */
    private int waysFrom(int day) {
        if (day >= told.days) {
            return 1;
        }
        if (now.at[day] == NONE) {
            return waysFrom(day + 1);
        }
        int ways = 0;
        int wants = told.wants[day];
        for (int house = 0; house < told.houses; house++) {
            if (row[house] >= wants && (laid[house] & told.foes[day]) == 0) {
                row[house] -= wants;
                laid[house] |= 1 << day;
                ways += waysFrom(day + 1);
                laid[house] &= ~(1 << day);
                row[house] += wants;
            }
        }
        return ways;
    }

    public int apart() {
        int sets = 1 << told.days;
        fewest[0] = 0;
        for (int set = 1; set < sets; set++) {
            fewest[set] = fewestHouses(set);
        }
        return fewest[sets - 1];
    }

    /** Takes one HOUSE's peaceful part away from the set; what is left is a smaller set, known already. */
    private int fewestHouses(int set) {
        int least = MOST_DAYS;
        for (int part = set; part > 0; part = (part - 1) & set) {
            if (isPeaceful(part)) {
                least = Math.min(least, 1 + fewest[set & ~part]);
            }
        }
        return least;
    }

    private boolean isPeaceful(int set) {
        for (int day = 0; day < told.days; day++) {
            if (has(set, day) && (told.foes[day] & set) != 0) {
                return false;
            }
        }
        return true;
    }

    public int defer(int day) {
        if (!isDay(day)) {
            return NONE;
        }
        int best = 0;
        int least = MOST_DAYS + 1;
        for (int on = 0; on < DATES_A_YEAR; on++) {
            ahead.copyFrom(now);
            ahead.on[day] = on;
            int most = mostAtOnce(PLANNING_AHEAD);
            if (most < least) {
                least = most;
                best = on;
            }
        }
        return best;
    }

    private int mostAtOnce(int dates) {
        int most = 0;
        for (int behind = 0; behind < dates; behind++) {
            ahead.passDate(told);
            most = Math.max(most, Integer.bitCount(ahead.somewhere(told)));
        }
        return most;
    }

    public boolean see(int house, int dates) {
        if ((house != NONE && !isHouse(house)) || !within(dates, 0, SEEING_AHEAD)) {
            return false;
        }
        return seen.add(house, dates);
    }

    public int who() {
        int them = (1 << told.days) - 1;
        ahead.copyFrom(now);
        for (int behind = 0; behind <= SEEING_AHEAD; behind++) {
            for (int sight = 0; sight < seen.size; sight++) {
                if (seen.behind[sight] == behind) {
                    them &= ahead.guests(told, seen.house[sight]);
                }
            }
            ahead.passDate(told);
        }
        return them;
    }

    public int look() {
        int them = who();
        int best = NONE;
        int least = Integer.bitCount(them);
        ahead.copyFrom(now);
        for (int behind = 0; behind <= SEEING_AHEAD; behind++) {
            int most = mostTogether(them);
            if (most < least) {
                least = most;
                best = behind;
            }
            ahead.passDate(told);
        }
        return best;
    }

    private int mostTogether(int them) {
        int most = 0;
        for (int house = NONE; house < told.houses; house++) {
            most = Math.max(most, Integer.bitCount(them & ahead.guests(told, house)));
        }
        return most;
    }

    public int through(int house, int other) {
        if (!isHouse(house) || !isHouse(other)) {
            return NONE;
        }
        int reached = 1 << house;
        for (int doors = 0; doors < told.houses; doors++) {
            if (has(reached, other)) {
                return doors;
            }
            reached |= lendersOf(reached);
        }
        return NONE;
    }

    private int lendersOf(int houses) {
        int lenders = 0;
        for (int house = 0; house < told.houses; house++) {
            if (has(houses, house)) {
                lenders |= told.lenders[house];
            }
        }
        return lenders;
    }

    public int quiet() {
        int best = NONE;
        for (int day = 0; day < told.days; day++) {
            if (best == NONE || now.says[day] < now.says[best]) {
                best = day;
            }
        }
        return best;
    }

    public int peace() {
        int pairs = 0;
        for (int house = 0; house < told.houses; house++) {
            int guests = Integer.bitCount(now.guests(told, house));
            pairs += guests * (guests - 1) / 2;
        }
        return pairs;
    }

    public int loudest() {
        int best = NONE;
        int most = 0;
        for (int house = 0; house < told.houses; house++) {
            int talk = now.talk(told, house);
            if (talk > most) {
                most = talk;
                best = house;
            }
        }
        return best;
    }

    public int eldest(int house) {
        if (!isHouse(house)) {
            return NONE;
        }
        int best = NONE;
        for (int day = 0; day < told.days; day++) {
            if (now.at[day] == house && (best == NONE || now.been[day] > now.been[best])) {
                best = day;
            }
        }
        return best;
    }

    public int spare() {
        int spared = 0;
        for (int house = 0; house < told.houses; house++) {
            if (now.beds[house] > 1) {
                ahead.copyFrom(now);
                ahead.beds[house]--;
                if (noneTurnedOff(PLANNING_AHEAD)) {
                    spared |= 1 << house;
                }
            }
        }
        return spared;
    }

    public int chance(int day, int dates, int odds) {
        if (!isDay(day) || !within(dates, 1, 6) || !within(odds, 0, 10)) {
            return NONE;
        }
        int chance = 0;
        for (int floods = 0; floods < 1 << dates; floods++) {
            int weight = weightOf(floods, dates, odds);
            if (weight > 0 && isTurnedOffBy(floods, day, dates)) {
                chance += weight;
            }
        }
        return chance;
    }

    /** In millionths: six factors of ten at most, so that nothing has to be cut. */
    private static int weightOf(int floods, int dates, int odds) {
        int weight = 1;
        for (int behind = 0; behind < 6; behind++) {
            if (behind >= dates) {
                weight *= 10;
            } else {
                weight *= has(floods, behind) ? odds : 10 - odds;
            }
        }
        return weight;
    }

    private boolean isTurnedOffBy(int floods, int day, int dates) {
        ahead.copyFrom(now);
        for (int behind = 0; behind < dates; behind++) {
            if (has(floods, behind)) {
                ahead.flood();
            }
            ahead.passDate(told);
            if (has(ahead.off, day)) {
                return true;
            }
        }
        return false;
    }

    public int rests(int lose, int sits, int gives, int what) throws NoSuchElementException {
        if (!within(lose, 0, 9) || !within(sits, 0, 9) || !within(gives, 0, 9)) {
            throw new NoSuchElementException("no such chair");
        }
        int found = 0;
        for (int choice = 0; choice < 4; choice++) {
            int first = choice / 2;
            int other = choice % 2;
            boolean firstRests = gain(first, other, lose, sits, gives) >= gain(1 - first, other, lose, sits, gives);
            boolean otherRests = gain(other, first, lose, sits, gives) >= gain(1 - other, first, lose, sits, gives);
            if (firstRests && otherRests) {
                if (found == what) {
                    return choice;
                }
                found++;
            }
        }
        if (what != NONE) {
            throw new NoSuchElementException("no such rest");
        }
        return found;
    }

    /** What one gets by his own choice (1 sits) against another's. */
    private static int gain(int own, int against, int lose, int sits, int gives) {
        if (own == 1) {
            return against == 1 ? -lose : sits;
        }
        return against == 1 ? gives : 0;
    }

    public int ages(int seed, int dates, int what) {
        if (!within(seed, 0, 9999) || !within(dates, 1, 99) || !within(what, 0, 2)) {
            return NONE;
        }
        drawn = seed;
        ahead.copyFrom(now);
        int came = 0;
        int off = 0;
        for (int behind = 0; behind < dates; behind++) {
            if (told.days > 0) {
                actByDraw();
            }
            ahead.passDate(told);
            came += Integer.bitCount(ahead.came);
            off += Integer.bitCount(ahead.off);
        }
        if (what == 2) {
            return ahead.talkOfAll(told);
        }
        return what == 0 ? came : off;
    }

    private void actByDraw() {
        int act = drawBelow(6);
        if (act == 0) {
            int day = drawBelow(told.days);
            if (ahead.at[day] != NONE) {
                ahead.leave(day);
            }
        } else if (act == 1) {
            int day = drawBelow(told.days);
            int house = drawBelow(told.houses);
            if (ahead.canShift(told, day, house)) {
                ahead.shift(day, house);
            }
        }
    }

    private int drawBelow(int bound) {
        drawn = (drawn * 1103515245L + 12345L) % 2147483648L;
        return bound > 0 ? (int) (drawn / 65536L % bound) : 0;
    }

    public boolean mark(int mark, boolean back) {
        if (!within(mark, 0, MARKS - 1)) {
            return false;
        }
        if (!back) {
            marks[mark].lay(now, seen);
            return true;
        }
        if (!marks[mark].laid) {
            return false;
        }
        now.copyFrom(marks[mark].stand);
        seen.copyFrom(marks[mark].seen);
        history.size = 0;
        return true;
    }

    public int count(int what) {
        switch (what) {
            case 0:
                return told.houses;
            case 1:
                return told.days;
            case 2:
                return told.stays;
            case 3:
                return now.year;
            case 4:
                return now.date;
            case 5:
                return now.somewhere(told);
            case 6:
                return now.bedsOfAll(told);
            case 7:
                return now.turnedOff;
            case 8:
                return now.faded(told);
            case 9:
                return plan.lines;
            case 10:
                return seen.size;
            case 11:
                return history.size;
            case 12:
                return tape.length;
            default:
                return NONE;
        }
    }

    private boolean isHouse(int house) {
        return within(house, 0, told.houses - 1);
    }

    private boolean isDay(int day) {
        return within(day, 0, told.days - 1);
    }

    private static boolean within(int number, int least, int most) {
        return number >= least && number <= most;
    }

    private static boolean has(int bits, int bit) {
        return ((bits >> bit) & 1) != 0;
    }

    private static int clamp(int number, int least, int most) {
        return Math.max(least, Math.min(most, number));
    }

    /** The signs that were fed and not read yet, and the token of them at which a reader is. */
    private static final class Tape {
        private static final int LONGEST_WORD = 8;
        private static final int LONGEST_NUMBER = 4;

        private static final int END = 0;
        private static final int WORD = 1;
        private static final int NUMBER = 2;
        private static final int SIGN = 3;
        private static final int NO_TOKEN = 4;

        private final byte[] signs = new byte[MOST_SIGNS];
        private int length;
        private int place;
        private int behind;
        private int sort;
        private int number;
        /** The letters of a WORD as digits of base 32: no two WORDS are alike in it. */
        private long word;
        private int fault;
        /** What the token passed last was: a number, or the number of a HOUSE or a DAY. */
        private int taken;

        void add(int sign) {
            if (length < signs.length && (sign == 10 || within(sign, 32, 126))) {
                signs[length] = (byte) sign;
                length++;
            }
        }

        void begin() {
            fault = 0;
            behind = 0;
            step();
        }

        boolean atEnd() {
            return sort == END;
        }

        void step() {
            while (behind < length && (signs[behind] == 10 || signs[behind] == 32)) {
                behind++;
            }
            place = behind;
            if (place >= length) {
                sort = END;
                return;
            }
            int sign = signs[place];
            if (within(sign, 'a', 'z')) {
                scanWord();
            } else if (within(sign, '0', '9')) {
                scanNumber();
            } else {
                behind++;
                sort = isSign(sign) ? SIGN : NO_TOKEN;
            }
        }

        private void scanWord() {
            word = 0;
            while (behind < length && signs[behind] >= 'a' && signs[behind] <= 'z') {
                word = word * 32 + (signs[behind] - 'a' + 1);
                behind++;
            }
            sort = behind - place <= LONGEST_WORD ? WORD : NO_TOKEN;
        }

        private void scanNumber() {
            number = 0;
            while (behind < length && signs[behind] >= '0' && signs[behind] <= '9') {
                number = number * 10 + (signs[behind] - '0');
                behind++;
            }
            sort = behind - place <= LONGEST_NUMBER ? NUMBER : NO_TOKEN;
        }

        private static boolean isSign(int sign) {
            switch (sign) {
                case '(':
                case ')':
                case '<':
                case '=':
                case '+':
                case '-':
                case '*':
                case ';':
                    return true;
                default:
                    return false;
            }
        }

        boolean isWord(String text) {
            if (sort != WORD || text.length() != behind - place) {
                return false;
            }
            for (int at = 0; at < text.length(); at++) {
                if (signs[place + at] != text.charAt(at)) {
                    return false;
                }
            }
            return true;
        }

        boolean isSignOf(char sign) {
            return sort == SIGN && signs[place] == sign;
        }

        boolean isNumber() {
            return sort == NUMBER;
        }

        boolean isName() {
            if (sort != WORD) {
                return false;
            }
            boolean kept = isWord("house") || isWord("beds") || isWord("lends") || isWord("day")
                || isWord("of") || isWord("on") || isWord("says") || isWord("clash")
                || isWord("stays") || isWord("fades") || isWord("date") || isWord("move")
                || isWord("send") || isWord("build") || isWord("plain") || isWord("big")
                || isWord("early") || isWord("leap") || isWord("not") || isWord("and") || isWord("or");
            return !kept;
        }

        /** Always false, for the reader to give up with: the token at hand is the first wrong one. */
        boolean refuse(int kind) {
            fault = kind + 16 * place;
            return false;
        }

        boolean passWord(String text) {
            if (!isWord(text)) {
                return refuse(CANT_STAND);
            }
            step();
            return true;
        }

        boolean passSign(char sign) {
            if (!isSignOf(sign)) {
                return refuse(CANT_STAND);
            }
            step();
            return true;
        }

        boolean passNumber(int least, int most) {
            if (!isNumber()) {
                return refuse(CANT_STAND);
            }
            if (!within(number, least, most)) {
                return refuse(BAD_NUMBER);
            }
            taken = number;
            step();
            return true;
        }
    }

    /** Reads the lines of a VALE or of a YEAR off the TAPE; each answers the FAULT, or 0. */
    private static final class Reader {
        static int readVale(Tape tape, Vale vale) {
            vale.clear();
            tape.begin();
            for (int line = 0; line < MOST_SIGNS && !tape.atEnd(); line++) {
                if (!readValeLine(tape, vale)) {
                    return tape.fault;
                }
            }
            return 0;
        }

        private static boolean readValeLine(Tape tape, Vale vale) {
            if (tape.isWord("house")) {
                return readHouse(tape, vale);
            }
            if (tape.isWord("lends")) {
                return readLends(tape, vale);
            }
            if (tape.isWord("day")) {
                return readDay(tape, vale);
            }
            if (tape.isWord("clash")) {
                return readClash(tape, vale);
            }
            if (tape.isWord("stays")) {
                return readStays(tape, vale);
            }
            if (tape.isWord("fades")) {
                return readFades(tape, vale);
            }
            return tape.refuse(CANT_STAND);
        }

        private static boolean readHouse(Tape tape, Vale vale) {
            if (vale.houses >= MOST_HOUSES) {
                return tape.refuse(TOO_MANY);
            }
            tape.step();
            long name = tape.word;
            if (!passNewName(tape, vale) || !tape.passWord("beds") || !tape.passNumber(1, 6)) {
                return false;
            }
            vale.addHouse(name, tape.taken);
            return tape.passSign(';');
        }

        private static boolean readLends(Tape tape, Vale vale) {
            tape.step();
            if (!passHouse(tape, vale, 0)) {
                return false;
            }
            int house = tape.taken;
            if (!passHouse(tape, vale, (1 << house) | vale.lenders[house])) {
                return false;
            }
            int other = tape.taken;
            vale.lenders[house] |= 1 << other;
            vale.lenders[other] |= 1 << house;
            return tape.passSign(';');
        }

        private static boolean readDay(Tape tape, Vale vale) {
            if (vale.days >= MOST_DAYS) {
                return tape.refuse(TOO_MANY);
            }
            tape.step();
            long name = tape.word;
            if (!passNewName(tape, vale) || !passKind(tape)) {
                return false;
            }
            int kind = tape.taken;
            if (!tape.passWord("of") || !passHouse(tape, vale, 0)) {
                return false;
            }
            int home = tape.taken;
            if (!tape.passWord("on") || !tape.passNumber(0, DATES_A_YEAR - 1)) {
                return false;
            }
            int on = tape.taken;
            if (!tape.passWord("says") || !tape.passNumber(0, 40)) {
                return false;
            }
            vale.addDay(name, kind, home, on, tape.taken);
            return tape.passSign(';');
        }

        private static boolean readClash(Tape tape, Vale vale) {
            tape.step();
            if (!passDay(tape, vale, 0)) {
                return false;
            }
            int day = tape.taken;
            if (!passDay(tape, vale, (1 << day) | vale.foes[day])) {
                return false;
            }
            int other = tape.taken;
            vale.foes[day] |= 1 << other;
            vale.foes[other] |= 1 << day;
            return tape.passSign(';');
        }

        private static boolean readStays(Tape tape, Vale vale) {
            if (vale.staysTold) {
                return tape.refuse(TOLD_ALREADY);
            }
            vale.staysTold = true;
            tape.step();
            if (!tape.passNumber(1, 4)) {
                return false;
            }
            vale.stays = tape.taken;
            return tape.passSign(';');
        }

        private static boolean readFades(Tape tape, Vale vale) {
            if (vale.fadesTold) {
                return tape.refuse(TOLD_ALREADY);
            }
            vale.fadesTold = true;
            tape.step();
            vale.law.length = 0;
            return vale.law.readLevel(tape, Law.TESTS, 0) && tape.passSign(';');
        }

        static int readPlan(Tape tape, Vale vale, Plan plan) {
            plan.lines = 0;
            tape.begin();
            for (int line = 0; line <= MOST_LINES && !tape.atEnd(); line++) {
                if (!readPlanLine(tape, vale, plan)) {
                    return tape.fault;
                }
            }
            return 0;
        }

        private static boolean readPlanLine(Tape tape, Vale vale, Plan plan) {
            int act = lineAct(tape);
            if (act == NONE) {
                return tape.refuse(CANT_STAND);
            }
            if (plan.lines >= MOST_LINES) {
                return tape.refuse(TOO_MANY);
            }
            tape.step();
            int day = NONE;
            int house = NONE;
            if (act == LINE_MOVE || act == LINE_SEND) {
                if (!passDay(tape, vale, 0)) {
                    return false;
                }
                day = tape.taken;
            }
            if (act == LINE_MOVE || act == LINE_BUILD) {
                if (!passHouse(tape, vale, 0)) {
                    return false;
                }
                house = tape.taken;
            }
            plan.add(act, day, house);
            return tape.passSign(';');
        }

        private static int lineAct(Tape tape) {
            if (tape.isWord("date")) {
                return LINE_DATE;
            }
            if (tape.isWord("move")) {
                return LINE_MOVE;
            }
            if (tape.isWord("send")) {
                return LINE_SEND;
            }
            return tape.isWord("build") ? LINE_BUILD : NONE;
        }

        private static boolean passNewName(Tape tape, Vale vale) {
            if (!tape.isName()) {
                return tape.refuse(CANT_STAND);
            }
            if (vale.houseNamed(tape.word) != NONE || vale.dayNamed(tape.word) != NONE) {
                return tape.refuse(TOLD_ALREADY);
            }
            tape.step();
            return true;
        }

        private static boolean passKind(Tape tape) {
            if (tape.isWord("plain")) {
                tape.taken = PLAIN;
            } else if (tape.isWord("big")) {
                tape.taken = BIG;
            } else if (tape.isWord("early")) {
                tape.taken = EARLY;
            } else if (tape.isWord("leap")) {
                tape.taken = LEAP;
            } else {
                return tape.refuse(CANT_STAND);
            }
            tape.step();
            return true;
        }

        /** The barred HOUSES (bits) are those that can't stand here a second time. */
        private static boolean passHouse(Tape tape, Vale vale, int barred) {
            return passTold(tape, vale.houseNamed(tape.word), barred);
        }

        private static boolean passDay(Tape tape, Vale vale, int barred) {
            return passTold(tape, vale.dayNamed(tape.word), barred);
        }

        private static boolean passTold(Tape tape, int number, int barred) {
            if (!tape.isName()) {
                return tape.refuse(CANT_STAND);
            }
            if (number == NONE) {
                return tape.refuse(NOT_TOLD);
            }
            if (has(barred, number)) {
                return tape.refuse(TOLD_ALREADY);
            }
            tape.taken = number;
            tape.step();
            return true;
        }
    }

    /** The E of fades: its PARTS first, each operator behind what it joins. */
    private static final class Law {
        private static final int LOUD = -1;
        private static final int FULL = -2;
        private static final int MONTH = -3;
        private static final int TIMES = -4;
        private static final int NOT = -5;
        private static final int AND = -6;
        private static final int OR = -7;
        private static final int LESS = -8;
        private static final int SAME = -9;
        private static final int PLUS = -10;
        private static final int MINUS = -11;
        private static final int STAR = -12;
        private static final int NOTHING = 0;

        /** The levels of an E, from the loosest: TESTS, the two sides of one, a SUM, a PRODUCT. */
        private static final int TESTS = 0;
        private static final int SIDES = 1;
        private static final int SUMS = 2;
        private static final int PRODUCTS = 3;
        private static final int DEEPEST = 5;

        private final int[] code = new int[MOST_SIGNS];
        /** A PART lies within 4 others at most, and each E waits with four values at most. */
        private final int[] pile = new int[32];
        private int length;

        private void add(int item) {
            if (length < code.length) {
                code[length] = item;
                length++;
            }
        }

        /** Reads what the operators of a level join, from the left; depth: within how many not and ( ). */
        private boolean readLevel(Tape tape, int level, int depth) {
            if (level > PRODUCTS) {
                return readPart(tape, depth);
            }
            if (!readLevel(tape, level + 1, depth)) {
                return false;
            }
            for (int joint = 0; joint < MOST_SIGNS; joint++) {
                int operator = operatorOf(tape, level);
                if (operator == NOTHING) {
                    return true;
                }
                tape.step();
                if (!readLevel(tape, level + 1, depth)) {
                    return false;
                }
                add(operator);
                if (level == SIDES) {
                    return true;
                }
            }
            return true;
        }

        private static int operatorOf(Tape tape, int level) {
            switch (level) {
                case TESTS:
                    return tape.isWord("and") ? AND : tape.isWord("or") ? OR : NOTHING;
                case SIDES:
                    return tape.isSignOf('<') ? LESS : tape.isSignOf('=') ? SAME : NOTHING;
                case SUMS:
                    return tape.isSignOf('+') ? PLUS : tape.isSignOf('-') ? MINUS : NOTHING;
                default:
                    return tape.isSignOf('*') ? STAR : NOTHING;
            }
        }

        private boolean readPart(Tape tape, int depth) {
            boolean denied = tape.isWord("not");
            boolean opened = tape.isSignOf('(');
            int fact = factOf(tape);
            if (!denied && !opened && fact == NOTHING && !tape.isNumber()) {
                return tape.refuse(CANT_STAND);
            }
            if (depth >= DEEPEST) {
                return tape.refuse(TOO_MANY);
            }
            int number = tape.number;
            tape.step();
            if (opened) {
                return readLevel(tape, TESTS, depth + 1) && tape.passSign(')');
            }
            if (denied) {
                if (!readPart(tape, depth + 1)) {
                    return false;
                }
                add(NOT);
                return true;
            }
            add(fact != NOTHING ? fact : number);
            return true;
        }

        private static int factOf(Tape tape) {
            if (tape.isWord("loud")) {
                return LOUD;
            }
            if (tape.isWord("full")) {
                return FULL;
            }
            if (tape.isWord("month")) {
                return MONTH;
            }
            return tape.isWord("times") ? TIMES : NOTHING;
        }

        int value(int loud, int full, int month, int times) {
            int top = 0;
            for (int at = 0; at < length; at++) {
                int item = code[at];
                if (item == NOT) {
                    if (top > 0) {
                        pile[top - 1] = pile[top - 1] == 0 ? 1 : 0;
                    }
                } else if (item < NOT) {
                    if (top > 1) {
                        top--;
                        pile[top - 1] = joined(item, pile[top - 1], pile[top]);
                    }
                } else if (top < pile.length) {
                    pile[top] = item == LOUD ? loud : item == FULL ? full
                        : item == MONTH ? month : item == TIMES ? times : item;
                    top++;
                }
            }
            return top > 0 ? pile[top - 1] : 0;
        }

        private static int joined(int operator, int left, int right) {
            switch (operator) {
                case AND:
                    return left != 0 && right != 0 ? 1 : 0;
                case OR:
                    return left != 0 || right != 0 ? 1 : 0;
                case LESS:
                    return left < right ? 1 : 0;
                case SAME:
                    return left == right ? 1 : 0;
                case PLUS:
                    return left + right;
                case MINUS:
                    return left - right;
                default:
                    return left * right;
            }
        }
    }

    /** What a VALE tells, and no call changes. */
    private static final class Vale {
        private final long[] houseNames = new long[MOST_HOUSES];
        private final int[] beds = new int[MOST_HOUSES];
        private final int[] lenders = new int[MOST_HOUSES];
        private final long[] dayNames = new long[MOST_DAYS];
        private final int[] kind = new int[MOST_DAYS];
        private final int[] home = new int[MOST_DAYS];
        private final int[] on = new int[MOST_DAYS];
        private final int[] says = new int[MOST_DAYS];
        private final int[] foes = new int[MOST_DAYS];
        /** In how many beds each DAY lies. */
        private final int[] wants = new int[MOST_DAYS];
        private final Law law = new Law();
        private int houses;
        private int days;
        private int stays = 1;
        private boolean staysTold;
        private boolean fadesTold;

        void clear() {
            houses = 0;
            days = 0;
            stays = 1;
            staysTold = false;
            fadesTold = false;
            Arrays.fill(lenders, 0);
            Arrays.fill(foes, 0);
        }

        void addHouse(long name, int bedsTold) {
            if (houses < MOST_HOUSES) {
                houseNames[houses] = name;
                beds[houses] = bedsTold;
                houses++;
            }
        }

        void addDay(long name, int kindTold, int homeTold, int onTold, int saysTold) {
            if (days < MOST_DAYS) {
                dayNames[days] = name;
                kind[days] = kindTold;
                home[days] = homeTold;
                on[days] = onTold;
                says[days] = saysTold;
                wants[days] = kindTold == BIG ? 2 : 1;
                days++;
            }
        }

        int houseNamed(long name) {
            for (int house = 0; house < houses; house++) {
                if (houseNames[house] == name) {
                    return house;
                }
            }
            return NONE;
        }

        int dayNamed(long name) {
            for (int day = 0; day < days; day++) {
                if (dayNames[day] == name) {
                    return day;
                }
            }
            return NONE;
        }
    }

    /** All that UNDO brings back: the date, the beds, and how the DAYS stand. */
    private static final class Stand {
        private final int[] beds = new int[MOST_HOUSES];
        /** The dates of the DAYS; only DEFER tries others than those told. */
        private final int[] on = new int[MOST_DAYS];
        private final int[] says = new int[MOST_DAYS];
        private final int[] at = new int[MOST_DAYS];
        private final int[] been = new int[MOST_DAYS];
        private final int[] times = new int[MOST_DAYS];
        private int date;
        private int year;
        private int turnedOff;
        /** Who came and who was TURNED OFF by the last DATE, as bits. */
        private int came;
        private int off;

        Stand() {
            Arrays.fill(at, NONE);
        }

        void begin(Vale vale) {
            System.arraycopy(vale.beds, 0, beds, 0, MOST_HOUSES);
            System.arraycopy(vale.on, 0, on, 0, MOST_DAYS);
            System.arraycopy(vale.says, 0, says, 0, MOST_DAYS);
            Arrays.fill(at, NONE);
            Arrays.fill(been, 0);
            Arrays.fill(times, 0);
            date = 0;
            year = 0;
            turnedOff = 0;
        }

        void copyFrom(Stand other) {
            System.arraycopy(other.beds, 0, beds, 0, MOST_HOUSES);
            System.arraycopy(other.on, 0, on, 0, MOST_DAYS);
            System.arraycopy(other.says, 0, says, 0, MOST_DAYS);
            System.arraycopy(other.at, 0, at, 0, MOST_DAYS);
            System.arraycopy(other.been, 0, been, 0, MOST_DAYS);
            System.arraycopy(other.times, 0, times, 0, MOST_DAYS);
            date = other.date;
            year = other.year;
            turnedOff = other.turnedOff;
        }

        void passDate(Vale vale) {
            date++;
            if (date >= DATES_A_YEAR) {
                date = 0;
                year++;
            }
            for (int day = 0; day < vale.days; day++) {
                stayLonger(vale, day);
            }
            came = 0;
            off = 0;
            for (int day = 0; day < vale.days; day++) {
                if (isDue(vale, day)) {
                    receive(vale, day, hostOf(vale, day));
                }
            }
        }

        private void stayLonger(Vale vale, int day) {
            if (at[day] != NONE) {
                been[day]++;
                if (been[day] >= vale.stays) {
                    leave(day);
                }
            }
        }

        void leave(int day) {
            at[day] = NONE;
            been[day] = 0;
        }

        void flood() {
            Arrays.fill(at, NONE);
            Arrays.fill(been, 0);
        }

        private boolean isDue(Vale vale, int day) {
            if (at[day] != NONE || says[day] == 0) {
                return false;
            }
            int kind = vale.kind[day];
            if (kind == LEAP && year % 4 != 0) {
                return false;
            }
            int due = kind == EARLY ? (on[day] + DATES_A_YEAR - 1) % DATES_A_YEAR : on[day];
            return date == due;
        }

        private void receive(Vale vale, int day, int house) {
            if (house == NONE) {
                off |= 1 << day;
                turnedOff++;
                return;
            }
            at[day] = house;
            been[day] = 0;
            times[day]++;
            came |= 1 << day;
            int full = Integer.bitCount(guests(vale, house));
            int more = vale.fadesTold ? vale.law.value(says[day], full, date, times[day]) : -1;
            says[day] = clamp(says[day] + clamp(more, -9, 9), 0, 99);
        }

        private int hostOf(Vale vale, int day) {
            int home = vale.home[day];
            if (holds(vale, home, day)) {
                return home;
            }
            for (int house = 0; house < vale.houses; house++) {
                if (has(vale.lenders[home], house) && holds(vale, house, day)) {
                    return house;
                }
            }
            return NONE;
        }

        boolean holds(Vale vale, int house, int day) {
            return freeBeds(vale, house) >= vale.wants[day] && (guests(vale, house) & vale.foes[day]) == 0;
        }

        boolean canShift(Vale vale, int day, int house) {
            return at[day] != NONE && at[day] != house && holds(vale, house, day);
        }

        /** How long it has been there goes on: one who changes HOUSES has no longer stay by it. */
        void shift(int day, int house) {
            at[day] = house;
        }

        int freeBeds(Vale vale, int house) {
            int free = beds[house];
            for (int day = 0; day < vale.days; day++) {
                if (at[day] == house) {
                    free -= vale.wants[day];
                }
            }
            return free;
        }

        /** The DAYS in a HOUSE, or (NONE) nowhere, as bits. */
        int guests(Vale vale, int house) {
            int guests = 0;
            for (int day = 0; day < vale.days; day++) {
                if (at[day] == house) {
                    guests |= 1 << day;
                }
            }
            return guests;
        }

        int somewhere(Vale vale) {
            return ((1 << vale.days) - 1) & ~guests(vale, NONE);
        }

        int talk(Vale vale, int house) {
            int talk = 0;
            for (int day = 0; day < vale.days; day++) {
                if (at[day] == house) {
                    talk += says[day];
                }
            }
            return talk;
        }

        int talkOfAll(Vale vale) {
            int talk = 0;
            for (int day = 0; day < vale.days; day++) {
                talk += says[day];
            }
            return talk;
        }

        int bedsOfAll(Vale vale) {
            int all = 0;
            for (int house = 0; house < vale.houses; house++) {
                all += beds[house];
            }
            return all;
        }

        int faded(Vale vale) {
            int faded = 0;
            for (int day = 0; day < vale.days; day++) {
                if (says[day] == 0) {
                    faded |= 1 << day;
                }
            }
            return faded;
        }
    }

    /** The lines of a YEAR. */
    private static final class Plan {
        private final int[] act = new int[MOST_LINES];
        private final int[] day = new int[MOST_LINES];
        private final int[] house = new int[MOST_LINES];
        private int lines;

        void add(int actTold, int dayTold, int houseTold) {
            if (lines < MOST_LINES) {
                act[lines] = actTold;
                day[lines] = dayTold;
                house[lines] = houseTold;
                lines++;
            }
        }

        /** False: the line can't be, and nothing is done. */
        boolean carryOut(int line, Vale vale, Stand stand) {
            int who = day[line];
            int place = house[line];
            switch (act[line]) {
                case LINE_MOVE:
                    if (!stand.canShift(vale, who, place)) {
                        return false;
                    }
                    stand.shift(who, place);
                    return true;
                case LINE_SEND:
                    if (stand.at[who] == NONE) {
                        return false;
                    }
                    stand.leave(who);
                    return true;
                case LINE_BUILD:
                    if (stand.beds[place] >= MOST_BEDS) {
                        return false;
                    }
                    stand.beds[place]++;
                    return true;
                default:
                    stand.passDate(vale);
                    return true;
            }
        }
    }

    /** In which HOUSE (NONE: in none) the unknown DAY is SEEN, behind how many DATES. */
    private static final class Seen {
        private final int[] house = new int[MOST_SEEN];
        private final int[] behind = new int[MOST_SEEN];
        private int size;

        boolean add(int houseSeen, int dates) {
            if (size >= MOST_SEEN) {
                return false;
            }
            house[size] = houseSeen;
            behind[size] = dates;
            size++;
            return true;
        }

        void copyFrom(Seen other) {
            System.arraycopy(other.house, 0, house, 0, MOST_SEEN);
            System.arraycopy(other.behind, 0, behind, 0, MOST_SEEN);
            size = other.size;
        }
    }

    /** A MARK, with what it holds. */
    private static final class Mark {
        private final Stand stand = new Stand();
        private final Seen seen = new Seen();
        private boolean laid;

        void lay(Stand now, Seen sights) {
            stand.copyFrom(now);
            seen.copyFrom(sights);
            laid = true;
        }
    }

    /** What was ahead of the last 16 things done, in a ring. */
    private static final class History {
        private final Stand[] stands = new Stand[MOST_UNDONE];
        private int newest;
        private int size;

        History() {
            for (int at = 0; at < MOST_UNDONE; at++) {
                stands[at] = new Stand();
            }
        }

        void keep(Stand now) {
            newest = (newest + 1) % MOST_UNDONE;
            stands[newest].copyFrom(now);
            size = Math.min(size + 1, MOST_UNDONE);
        }

        boolean bringBack(Stand now) {
            if (size == 0) {
                return false;
            }
            now.copyFrom(stands[newest]);
            newest = (newest + MOST_UNDONE - 1) % MOST_UNDONE;
            size--;
            return true;
        }
    }
}
