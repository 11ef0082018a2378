import java.util.ArrayList;
import java.util.Collections;
import java.util.List;
import java.util.TreeSet;
import java.util.function.ToIntFunction;

/** The document's words told a second time, slowly, for CrossTest: every question is put to a copy. */
final class SlowVale {
    enum Kind { PLAIN, BIG, EARLY, LEAP }

    /** What a law of fading may ask for. */
    record Facts(int loud, int full, int month, int times) { }

    static final class Guest {
        Kind kind;
        int home;
        int on;
        int says;
        Integer house;
        int been;
        int times;

        Guest copy() {
            Guest copy = new Guest();
            copy.kind = kind;
            copy.home = home;
            copy.on = on;
            copy.says = says;
            copy.house = house;
            copy.been = been;
            copy.times = times;
            return copy;
        }

        int beds() {
            return kind == Kind.BIG ? 2 : 1;
        }
    }

    final List<Guest> guests = new ArrayList<>();
    final List<Integer> beds = new ArrayList<>();
    boolean[][] lends = new boolean[4][4];
    boolean[][] clash = new boolean[6][6];
    int stays = 1;
    ToIntFunction<Facts> law = facts -> -1;
    int dates;
    int turnedOff;
    List<Integer> came = new ArrayList<>();
    List<Integer> off = new ArrayList<>();

    SlowVale copy() {
        SlowVale copy = new SlowVale();
        for (Guest guest : guests) {
            copy.guests.add(guest.copy());
        }
        copy.beds.addAll(beds);
        copy.lends = lends;
        copy.clash = clash;
        copy.stays = stays;
        copy.law = law;
        copy.dates = dates;
        copy.turnedOff = turnedOff;
        return copy;
    }

    SlowVale after(int more) {
        SlowVale later = copy();
        for (int gone = 0; gone < more; gone++) {
            later.date();
        }
        return later;
    }

    int free(int house) {
        int free = beds.get(house);
        for (Guest guest : guests) {
            free -= guest.house != null && guest.house == house ? guest.beds() : 0;
        }
        return free;
    }

    List<Integer> in(Integer house) {
        List<Integer> in = new ArrayList<>();
        for (int number = 0; number < guests.size(); number++) {
            Integer at = guests.get(number).house;
            if (house == null ? at == null : house.equals(at)) {
                in.add(number);
            }
        }
        return in;
    }

    boolean holds(int house, int number) {
        for (int other : in(house)) {
            if (clash[number][other]) {
                return false;
            }
        }
        return free(house) >= guests.get(number).beds();
    }

    void date() {
        dates++;
        came = new ArrayList<>();
        off = new ArrayList<>();
        for (Guest guest : guests) {
            if (guest.house != null) {
                guest.been++;
                if (guest.been == stays) {
                    guest.house = null;
                    guest.been = 0;
                }
            }
        }
        for (int number = 0; number < guests.size(); number++) {
            if (due(guests.get(number))) {
                receive(number);
            }
        }
    }

    private boolean due(Guest guest) {
        if (guest.house != null || guest.says == 0) {
            return false;
        }
        switch (guest.kind) {
            case EARLY:
                return (dates + 1) % 12 == guest.on;
            case LEAP:
                return dates % 48 == guest.on;
            default:
                return dates % 12 == guest.on;
        }
    }

    private void receive(int number) {
        Guest guest = guests.get(number);
        List<Integer> asked = new ArrayList<>();
        asked.add(guest.home);
        for (int house = 0; house < beds.size(); house++) {
            if (lends[house][guest.home]) {
                asked.add(house);
            }
        }
        for (int house : asked) {
            if (holds(house, number)) {
                guest.house = house;
                guest.times++;
                int more = law.applyAsInt(new Facts(guest.says, in(house).size(), dates % 12, guest.times));
                guest.says += more < -9 ? -9 : more > 9 ? 9 : more;
                guest.says = guest.says < 0 ? 0 : guest.says > 99 ? 99 : guest.says;
                came.add(number);
                return;
            }
        }
        turnedOff++;
        off.add(number);
    }

    boolean move(int number, int house) {
        if (!isGuest(number) || !isHouse(house) || guests.get(number).house == null
            || guests.get(number).house == house || !holds(house, number)) {
            return false;
        }
        guests.get(number).house = house;
        return true;
    }

    boolean send(int number) {
        if (!isGuest(number) || guests.get(number).house == null) {
            return false;
        }
        guests.get(number).house = null;
        guests.get(number).been = 0;
        return true;
    }

    int build(int house) {
        if (!isHouse(house) || beds.get(house) == 9) {
            return -1;
        }
        beds.set(house, beds.get(house) + 1);
        return beds.get(house);
    }

    boolean isGuest(int number) {
        return number >= 0 && number < guests.size();
    }

    boolean isHouse(int house) {
        return house >= 0 && house < beds.size();
    }

    int where(int number) {
        return guests.get(number).house == null ? -1 : guests.get(number).house;
    }

    int somewhere() {
        return guests.size() - in(null).size();
    }

    int talk(int house) {
        int talk = 0;
        for (int number : in(house)) {
            talk += guests.get(number).says;
        }
        return talk;
    }

    int next(int number) {
        for (int behind = 1; behind <= 60; behind++) {
            SlowVale later = after(behind);
            if (later.came.contains(number) || later.off.contains(number)) {
                return behind;
            }
        }
        return -1;
    }

    int gone(int number) {
        for (int behind = 0; behind <= 99; behind++) {
            if (after(behind).guests.get(number).says == 0) {
                return behind;
            }
        }
        return -1;
    }

    int crowd() {
        int best = 0;
        for (int behind = 1; behind <= 60; behind++) {
            if (after(behind).somewhere() > after(best).somewhere()) {
                best = behind;
            }
        }
        return best;
    }

    int[] refused() {
        for (int behind = 1; behind <= 60; behind++) {
            SlowVale later = after(behind);
            if (!later.off.isEmpty()) {
                return new int[] {behind, Collections.min(later.off)};
            }
        }
        return new int[] {-1, -1};
    }

    int meets(int number, int other) {
        for (int behind = 0; behind <= 60; behind++) {
            SlowVale later = after(behind);
            if (later.where(number) >= 0 && later.where(number) == later.where(other)) {
                return behind;
            }
        }
        return -1;
    }

    boolean noneOff(int more) {
        return after(more).turnedOff == turnedOff;
    }

    /** The row of BEDS, or null: all rows are tried, and the best of those that serve is kept. */
    int[] beds(int more) {
        int[] best = null;
        int houses = beds.size();
        for (int code = 0; code < Math.pow(3, houses); code++) {
            int[] row = new int[houses];
            int rest = code;
            SlowVale richer = copy();
            boolean can = true;
            for (int house = 0; house < houses; house++) {
                row[house] = rest % 3;
                rest /= 3;
                for (int bed = 0; bed < row[house]; bed++) {
                    can &= richer.build(house) != -1;
                }
            }
            if (can && richer.noneOff(more) && (best == null || less(row, best))) {
                best = row;
            }
        }
        return best;
    }

    static int sum(int[] row) {
        int sum = 0;
        for (int number : row) {
            sum += number;
        }
        return sum;
    }

    private static boolean less(int[] row, int[] than) {
        if (sum(row) != sum(than)) {
            return sum(row) < sum(than);
        }
        for (int at = 0; at < row.length; at++) {
            if (row[at] != than[at]) {
                return row[at] < than[at];
            }
        }
        return false;
    }

    int laying() {
        List<Integer> all = new ArrayList<>();
        for (int number = 0; number < guests.size(); number++) {
            if (guests.get(number).house != null) {
                all.add(number);
            }
        }
        int ways = 0;
        for (int code = 0; code < Math.pow(beds.size(), all.size()); code++) {
            SlowVale anew = copy();
            int rest = code;
            for (int number : all) {
                anew.guests.get(number).house = rest % beds.size();
                rest /= beds.size();
            }
            ways += anew.isPeaceful() ? 1 : 0;
        }
        return ways;
    }

    private boolean isPeaceful() {
        for (int house = 0; house < beds.size(); house++) {
            if (free(house) < 0) {
                return false;
            }
            for (int number : in(house)) {
                for (int other : in(house)) {
                    if (clash[number][other]) {
                        return false;
                    }
                }
            }
        }
        return true;
    }

    int apart() {
        int days = guests.size();
        int fewest = days;
        for (int code = 0; code < Math.pow(days, days); code++) {
            int[] house = new int[days];
            int rest = code;
            TreeSet<Integer> used = new TreeSet<>();
            for (int number = 0; number < days; number++) {
                house[number] = rest % days;
                rest /= days;
                used.add(house[number]);
            }
            boolean kept = true;
            for (int number = 0; number < days; number++) {
                for (int other = 0; other < days; other++) {
                    kept &= !(clash[number][other] && house[number] == house[other]);
                }
            }
            if (kept && used.size() < fewest) {
                fewest = used.size();
            }
        }
        return fewest;
    }

    int defer(int number) {
        int best = -1;
        int least = 99;
        for (int on = 0; on < 12; on++) {
            SlowVale put = copy();
            put.guests.get(number).on = on;
            int most = 0;
            for (int behind = 1; behind <= 24; behind++) {
                most = Math.max(most, put.after(behind).somewhere());
            }
            if (most < least) {
                least = most;
                best = on;
            }
        }
        return best;
    }

    int who(List<int[]> seen) {
        int who = 0;
        for (int number = 0; number < guests.size(); number++) {
            boolean so = true;
            for (int[] sight : seen) {
                so &= after(sight[1]).where(number) == sight[0];
            }
            who |= so ? 1 << number : 0;
        }
        return who;
    }

    int look(int who) {
        int best = -1;
        int least = Integer.bitCount(who);
        for (int behind = 0; behind <= 24; behind++) {
            SlowVale later = after(behind);
            int[] there = new int[5];
            int most = 0;
            for (int number = 0; number < guests.size(); number++) {
                if ((who >> number & 1) == 1) {
                    most = Math.max(most, ++there[later.where(number) + 1]);
                }
            }
            if (most < least) {
                least = most;
                best = behind;
            }
        }
        return best;
    }

    int through(int from, int to, int doors) {
        if (from == to) {
            return 0;
        }
        int best = -1;
        for (int house = 0; house < beds.size() && doors > 0; house++) {
            if (lends[from][house]) {
                int rest = through(house, to, doors - 1);
                if (rest >= 0 && (best < 0 || rest + 1 < best)) {
                    best = rest + 1;
                }
            }
        }
        return best;
    }

    int spare() {
        int bits = 0;
        for (int house = 0; house < beds.size(); house++) {
            SlowVale poorer = copy();
            poorer.beds.set(house, beds.get(house) - 1);
            bits |= beds.get(house) > 1 && poorer.noneOff(24) ? 1 << house : 0;
        }
        return bits;
    }

    /** Of 10 to the power of the DATES. */
    long chance(int number, int more, int odds) {
        if (more == 0) {
            return 0;
        }
        SlowVale dry = copy();
        SlowVale wet = copy();
        for (int guest = 0; guest < guests.size(); guest++) {
            wet.send(guest);
        }
        return odds * wet.stepped(number, more, odds) + (10 - odds) * dry.stepped(number, more, odds);
    }

    private long stepped(int number, int more, int odds) {
        date();
        if (off.contains(number)) {
            return Math.round(Math.pow(10, more - 1));
        }
        return chance(number, more - 1, odds);
    }

    int[] ages(int seed, int more) {
        SlowVale old = copy();
        long[] grown = {seed};
        int[] answer = new int[3];
        for (int behind = 0; behind < more; behind++) {
            if (!guests.isEmpty()) {
                int act = draw(grown, 6);
                if (act == 0) {
                    old.send(draw(grown, guests.size()));
                }
                if (act == 1) {
                    int number = draw(grown, guests.size());
                    old.move(number, draw(grown, beds.size()));
                }
            }
            old.date();
            answer[0] += old.came.size();
            answer[1] += old.off.size();
        }
        for (Guest guest : old.guests) {
            answer[2] += guest.says;
        }
        return answer;
    }

    private static int draw(long[] grown, int below) {
        grown[0] = (grown[0] * 1103515245L + 12345L) & 0x7fffffffL;
        return (int) ((grown[0] >> 16) % below);
    }

    static int bits(List<Integer> numbers) {
        int bits = 0;
        for (int number : numbers) {
            bits |= 1 << number;
        }
        return bits;
    }
}
