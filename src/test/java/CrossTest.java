import java.util.ArrayDeque;
import java.util.ArrayList;
import java.util.Deque;
import java.util.List;
import java.util.Random;
import java.util.function.ToIntFunction;

/** Vales made up by draws (always the same ones): every answer is held against SlowVale's. */
public final class CrossTest {
    private static final Bench BENCH = new Bench();
    private static final int VALES = 900;
    /** An object is used for 512 calls at most: a turn, and the YEAR behind it, go on from here. */
    private static final int CALLS = 270;
    private static final String[] KINDS = {"plain", "big", "early", "leap"};

    private final Random random;
    private final DateVale vale = new DateVale();
    private SlowVale slow = new SlowVale();
    private SlowVale begin;
    private final Deque<SlowVale> past = new ArrayDeque<>();
    private List<int[]> seen = new ArrayList<>();
    private final SlowVale[] marks = new SlowVale[4];
    private final List<List<int[]>> marksSeen = new ArrayList<>();
    private int calls;

    private CrossTest(int seed) {
        random = new Random(seed);
        for (int mark = 0; mark < 4; mark++) {
            marksSeen.add(new ArrayList<>());
        }
    }

    public static void main(String[] args) {
        for (int seed = 0; seed < VALES; seed++) {
            new CrossTest(seed).run(seed);
        }
        BENCH.end("CrossTest");
    }

    private void run(int seed) {
        String text = makeVale();
        BENCH.due("vale() of " + text, Bench.tell(vale, text), 0);
        begin = slow.copy();
        while (calls < CALLS) {
            int acts = random.nextInt(seed % 3 == 0 ? 60 : 9);
            for (int act = 0; act < acts; act++) {
                act(text);
            }
            state(text);
            questions(text);
        }
        year(text);
    }

    private String makeVale() {
        StringBuilder text = new StringBuilder();
        int houses = 1 + random.nextInt(4);
        for (int house = 0; house < houses; house++) {
            int beds = 1 + random.nextInt(random.nextInt(4) == 0 ? 6 : 2);
            slow.beds.add(beds);
            text.append("house h").append((char) ('a' + house)).append(" beds ").append(beds).append(";");
        }
        for (int house = 0; house < houses; house++) {
            for (int other = house + 1; other < houses; other++) {
                if (random.nextInt(3) > 0) {
                    slow.lends[house][other] = true;
                    slow.lends[other][house] = true;
                    boolean turned = random.nextBoolean();
                    text.append("lends h").append((char) ('a' + (turned ? other : house)));
                    text.append(" h").append((char) ('a' + (turned ? house : other))).append(" ;\n");
                }
            }
        }
        makeDays(text, houses);
        if (random.nextInt(5) > 0) {
            slow.stays = 1 + random.nextInt(4);
            text.append("stays ").append(slow.stays).append(";");
        }
        if (random.nextInt(3) > 0) {
            StringBuilder law = new StringBuilder();
            slow.law = makeTests(law, 0);
            if (law.length() < 300) {
                text.append("fades ").append(law).append(";");
            } else {
                slow.law = facts -> -1;
            }
        }
        return text.toString();
    }

    private void makeDays(StringBuilder text, int houses) {
        int days = random.nextInt(7);
        int season = 1 + random.nextInt(12);
        for (int day = 0; day < days; day++) {
            SlowVale.Guest guest = new SlowVale.Guest();
            guest.kind = SlowVale.Kind.values()[random.nextInt(4)];
            guest.home = random.nextInt(houses);
            guest.on = random.nextInt(season);
            guest.says = random.nextInt(3) == 0 ? random.nextInt(41) : random.nextInt(6);
            slow.guests.add(guest);
            text.append("day d").append((char) ('a' + day)).append(' ').append(KINDS[guest.kind.ordinal()]);
            text.append(" of h").append((char) ('a' + guest.home)).append(" on ").append(guest.on);
            text.append(" says ").append(guest.says).append(";");
        }
        for (int day = 0; day < days; day++) {
            for (int other = 0; other < day; other++) {
                if (random.nextInt(4) == 0) {
                    slow.clash[day][other] = true;
                    slow.clash[other][day] = true;
                    text.append("clash d").append((char) ('a' + day));
                    text.append(" d").append((char) ('a' + other)).append(";");
                }
            }
        }
    }

    private ToIntFunction<SlowVale.Facts> makeTests(StringBuilder text, int depth) {
        ToIntFunction<SlowVale.Facts> left = makeTest(text, depth);
        while (random.nextInt(5) == 0) {
            boolean both = random.nextBoolean();
            text.append(both ? " and " : " or ");
            ToIntFunction<SlowVale.Facts> first = left;
            ToIntFunction<SlowVale.Facts> second = makeTest(text, depth);
            left = facts -> {
                boolean one = first.applyAsInt(facts) != 0;
                boolean two = second.applyAsInt(facts) != 0;
                return (both ? one && two : one || two) ? 1 : 0;
            };
        }
        return left;
    }

    private ToIntFunction<SlowVale.Facts> makeTest(StringBuilder text, int depth) {
        ToIntFunction<SlowVale.Facts> left = makeSum(text, depth);
        int sort = random.nextInt(8);
        if (sort > 1) {
            return left;
        }
        text.append(sort == 0 ? "<" : "=");
        ToIntFunction<SlowVale.Facts> right = makeSum(text, depth);
        return facts -> {
            int one = left.applyAsInt(facts);
            int two = right.applyAsInt(facts);
            return (sort == 0 ? one < two : one == two) ? 1 : 0;
        };
    }

    private ToIntFunction<SlowVale.Facts> makeSum(StringBuilder text, int depth) {
        ToIntFunction<SlowVale.Facts> left = makeProduct(text, depth);
        while (random.nextInt(2) == 0) {
            boolean more = random.nextInt(3) == 0;
            text.append(more ? "+" : "-");
            ToIntFunction<SlowVale.Facts> first = left;
            ToIntFunction<SlowVale.Facts> second = makeProduct(text, depth);
            left = facts -> {
                int right = second.applyAsInt(facts);
                return first.applyAsInt(facts) + (more ? right : -right);
            };
        }
        return left;
    }

    private ToIntFunction<SlowVale.Facts> makeProduct(StringBuilder text, int depth) {
        ToIntFunction<SlowVale.Facts> left = makePart(text, depth);
        while (random.nextInt(5) == 0) {
            text.append("*");
            ToIntFunction<SlowVale.Facts> first = left;
            ToIntFunction<SlowVale.Facts> second = makePart(text, depth);
            left = facts -> first.applyAsInt(facts) * second.applyAsInt(facts);
        }
        return left;
    }

    private ToIntFunction<SlowVale.Facts> makePart(StringBuilder text, int depth) {
        switch (random.nextInt(depth < 4 ? 8 : 6)) {
            case 0:
                text.append(" loud ");
                return SlowVale.Facts::loud;
            case 1:
                text.append(" full ");
                return SlowVale.Facts::full;
            case 2:
                text.append(" month ");
                return SlowVale.Facts::month;
            case 3:
                text.append(" times ");
                return SlowVale.Facts::times;
            case 6:
                text.append(" not ");
                ToIntFunction<SlowVale.Facts> denied = makePart(text, depth + 1);
                return facts -> denied.applyAsInt(facts) == 0 ? 1 : 0;
            case 7:
                text.append("(");
                ToIntFunction<SlowVale.Facts> inner = makeTests(text, depth + 1);
                text.append(")");
                return inner;
            default:
                int number = random.nextInt(random.nextInt(9) == 0 ? 10000 : 7);
                text.append(number);
                return facts -> number;
        }
    }

    private void due(String call, long got, long want, String text) {
        BENCH.due(call + " at the date " + slow.dates + " of " + text, got, want);
        calls++;
    }

    private void act(String text) {
        int day = random.nextInt(slow.guests.size() + 2) - 1;
        int house = random.nextInt(slow.beds.size() + 2) - 1;
        SlowVale ahead = slow.copy();
        switch (random.nextInt(12)) {
            case 0:
                due("send(" + day + ")", vale.send(day) ? 1 : 0, keep(slow.send(day), ahead), text);
                break;
            case 1:
            case 2:
                due("move(" + day + ", " + house + ")", vale.move(day, house) ? 1 : 0,
                    keep(slow.move(day, house), ahead), text);
                break;
            case 3:
                int beds = slow.build(house);
                keep(beds != -1, ahead);
                due("build(" + house + ")", vale.build(house), beds, text);
                break;
            case 4:
                undo(text);
                break;
            case 5:
                sight(house, random.nextInt(27) - 1, text);
                break;
            case 6:
                mark(random.nextInt(6) - 1, random.nextInt(3) == 0, text);
                break;
            default:
                slow.date();
                keep(true, ahead);
                due("date()", vale.date(), SlowVale.bits(slow.came), text);
                break;
        }
    }

    private int keep(boolean done, SlowVale ahead) {
        if (done) {
            past.push(ahead);
            if (past.size() > 16) {
                past.removeLast();
            }
        }
        return done ? 1 : 0;
    }

    private void undo(String text) {
        boolean can = !past.isEmpty();
        if (can) {
            slow = past.pop();
        }
        due("undo()", vale.undo() ? 1 : 0, can ? 1 : 0, text);
    }

    private void sight(int house, int dates, String text) {
        boolean can = (house == -1 || slow.isHouse(house)) && dates >= 0 && dates <= 24 && seen.size() < 8;
        if (can) {
            seen.add(new int[] {house, dates});
        }
        due("see(" + house + ", " + dates + ")", vale.see(house, dates) ? 1 : 0, can ? 1 : 0, text);
    }

    private void mark(int mark, boolean back, String text) {
        boolean can = mark >= 0 && mark < 4 && (!back || marks[mark] != null);
        if (can && back) {
            slow = marks[mark].copy();
            seen = new ArrayList<>(marksSeen.get(mark));
            past.clear();
        } else if (can) {
            marks[mark] = slow.copy();
            marksSeen.set(mark, new ArrayList<>(seen));
        }
        due("mark(" + mark + ", " + back + ")", vale.mark(mark, back) ? 1 : 0, can ? 1 : 0, text);
    }

    private void state(String text) {
        int[] counts = new int[13];
        counts[0] = slow.beds.size();
        counts[1] = slow.guests.size();
        counts[2] = slow.stays;
        counts[3] = slow.dates / 12;
        counts[4] = slow.dates % 12;
        counts[5] = (1 << slow.guests.size()) - 1 - SlowVale.bits(slow.in(null));
        counts[7] = slow.turnedOff;
        counts[10] = seen.size();
        counts[11] = past.size();
        for (int house = 0; house < slow.beds.size(); house++) {
            counts[6] += slow.beds.get(house);
            int lenders = 0;
            for (int other = 0; other < 4; other++) {
                lenders |= slow.lends[house][other] ? 1 << other : 0;
            }
            int[] facts = {slow.beds.get(house), slow.free(house), SlowVale.bits(slow.in(house)), lenders,
                slow.talk(house), -2};
            for (int what = 0; what < 6; what++) {
                due("house(" + house + ", " + what + ")", vale.house(house, what), facts[what], text);
            }
        }
        for (int day = 0; day < slow.guests.size(); day++) {
            SlowVale.Guest guest = slow.guests.get(day);
            counts[8] |= guest.says == 0 ? 1 << day : 0;
            int foes = 0;
            for (int other = 0; other < 6; other++) {
                foes |= slow.clash[day][other] ? 1 << other : 0;
            }
            int[] facts = {guest.kind.ordinal(), guest.home, guest.on, guest.says, slow.where(day), guest.been,
                guest.times, foes, -2};
            for (int what = 0; what < 9; what++) {
                due("day(" + day + ", " + what + ")", vale.day(day, what), facts[what], text);
            }
        }
        for (int what = 0; what < 13; what++) {
            due("count(" + what + ")", vale.count(what), counts[what], text);
        }
    }

    private void questions(String text) {
        for (int day = 0; day < slow.guests.size(); day++) {
            int dates = random.nextInt(61);
            due("where(" + day + ", " + dates + ")", vale.where(day, dates), slow.after(dates).where(day), text);
            due("next(" + day + ")", vale.next(day), slow.next(day), text);
            due("gone(" + day + ")", vale.gone(day), slow.gone(day), text);
            due("defer(" + day + ")", vale.defer(day), slow.defer(day), text);
            int other = random.nextInt(slow.guests.size());
            due("meets(" + day + ", " + other + ")", vale.meets(day, other), day == other ? -1 : slow.meets(day, other), text);
            int floods = 1 + random.nextInt(6);
            int odds = random.nextInt(11);
            long chance = slow.copy().chance(day, floods, odds) * Math.round(Math.pow(10, 6 - floods));
            due("chance(" + day + ", " + floods + ", " + odds + ")", vale.chance(day, floods, odds), chance, text);
        }
        due("crowd()", vale.crowd(), slow.crowd(), text);
        due("refused(0)", vale.refused(0), slow.refused()[0], text);
        due("refused(1)", vale.refused(1), slow.refused()[1], text);
        due("laying()", vale.laying(), slow.laying(), text);
        due("apart()", vale.apart(), slow.apart(), text);
        due("spare()", vale.spare(), slow.spare(), text);
        due("who()", vale.who(), slow.who(seen), text);
        due("look()", vale.look(), slow.look(slow.who(seen)), text);
        beds(text);
        ages(text);
        small(text);
    }

    private void beds(String text) {
        int dates = 1 + random.nextInt(36);
        int[] row = slow.beds(dates);
        due("beds(" + dates + ", -1)", vale.beds(dates, -1), row == null ? -2 : SlowVale.sum(row), text);
        for (int house = 0; house < slow.beds.size(); house++) {
            due("beds(" + dates + ", " + house + ")", vale.beds(dates, house), row == null ? -2 : row[house], text);
        }
    }

    private void ages(String text) {
        int seed = random.nextInt(10000);
        int dates = 1 + random.nextInt(99);
        int[] answers = slow.ages(seed, dates);
        for (int what = 0; what < 3; what++) {
            due("ages(" + seed + ", " + dates + ", " + what + ")", vale.ages(seed, dates, what), answers[what], text);
        }
    }

    private void small(String text) {
        int quiet = -1;
        int pairs = 0;
        for (int day = 0; day < slow.guests.size(); day++) {
            quiet = quiet < 0 || slow.guests.get(day).says < slow.guests.get(quiet).says ? day : quiet;
            for (int other = 0; other < day; other++) {
                pairs += slow.where(day) >= 0 && slow.where(day) == slow.where(other) ? 1 : 0;
            }
        }
        int loudest = -1;
        for (int house = 0; house < slow.beds.size(); house++) {
            loudest = slow.talk(house) > (loudest < 0 ? 0 : slow.talk(loudest)) ? house : loudest;
            int eldest = -1;
            for (int day : slow.in(house)) {
                eldest = eldest < 0 || slow.guests.get(day).been > slow.guests.get(eldest).been ? day : eldest;
            }
            due("eldest(" + house + ")", vale.eldest(house), eldest, text);
            for (int other = 0; other < slow.beds.size(); other++) {
                due("through(" + house + ", " + other + ")", vale.through(house, other), slow.through(house, other, 4), text);
            }
        }
        due("quiet()", vale.quiet(), quiet, text);
        due("peace()", vale.peace(), pairs, text);
        due("loudest()", vale.loudest(), loudest, text);
    }

    /** A YEAR of drawn lines, judged; what is now does not matter to it. */
    private void year(String text) {
        StringBuilder lines = new StringBuilder();
        int[] answers = {-1, -1, 0};
        SlowVale judged = begin.copy();
        int count = random.nextInt(41);
        for (int line = 0; line < count; line++) {
            int act = random.nextInt(8);
            int day = slow.guests.isEmpty() ? -1 : random.nextInt(slow.guests.size());
            int house = random.nextInt(slow.beds.size());
            int before = judged.turnedOff;
            boolean can = true;
            if (act == 0 && day >= 0) {
                lines.append("send d").append((char) ('a' + day)).append(";");
                can = judged.send(day);
            } else if (act < 3 && day >= 0) {
                lines.append("move d").append((char) ('a' + day)).append(" h").append((char) ('a' + house)).append(";");
                can = judged.move(day, house);
            } else if (act == 3) {
                lines.append("build h").append((char) ('a' + house)).append(";");
                can = judged.build(house) != -1;
            } else {
                lines.append("date ;");
                judged.date();
            }
            answers[0] = !can && answers[0] < 0 ? line : answers[0];
            answers[1] = judged.turnedOff > before && answers[1] < 0 ? line : answers[1];
        }
        answers[2] = judged.turnedOff;
        due("year() of " + lines, Bench.tellYear(vale, lines.toString()), 0, text);
        due("count(9)", vale.count(9), count, text);
        for (int what = 0; what < 3; what++) {
            due("judged(" + what + ") of " + lines, vale.judged(what), answers[what], text);
        }
    }
}
