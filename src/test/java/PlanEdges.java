import java.math.BigInteger;

/** Promises 19 to 22, 31, 32 and 34: what is tried out: beds, layings, other dates, floods, draws. */
final class PlanEdges {
    private static final int NONE = DateVale.NONE;
    private static final int[] FAR = {Integer.MIN_VALUE, -32, -2, 7, 64, 100000, Integer.MAX_VALUE};

    private final Edges edges;

    PlanEdges(Edges edges) {
        this.edges = edges;
    }

    void all() {
        bedsDates();
        bedsAHouse();
        nineBeds();
        leastRow();
        bedsOthers();
        laying();
        apart();
        deferDates();
        deferAhead();
        deferOthers();
        spareBeds();
        spareDates();
        chanceDates();
        chanceOdds();
        chanceOthers();
        draws();
        agesActs();
        agesEdges();
    }

    /** When b has FADED, c comes to a, and d to neither: in e there is f, with which it clashes. */
    private DateVale late(int on, int says, int dates) {
        return edges.told("house a beds 3 ; house e beds 3 ; lends a e ; day b plain of a on " + on + " says " + says
            + " ; day c big of a on " + on + " says 9 ; day f plain of e on " + on + " says 9 ; day d big of a on " + on
            + " says 9 ; clash b c ; clash f d ; ", dates);
    }

    private void bedsDue(Edges.Edge edge, boolean within, DateVale vale, int dates, int... row) {
        int sum = 0;
        for (int beds : row) {
            sum += beds;
        }
        for (int house = -1; house < row.length; house++) {
            int want = house < 0 ? sum : row[house];
            String what = "beds(" + dates + ", " + house + ")";
            if (within) {
                edge.within(what, vale.beds(dates, house), want);
            } else {
                edge.beyond(what, vale.beds(dates, house), want);
            }
        }
    }

    private void bedsNone(Edges.Edge edge, DateVale vale, int dates) {
        for (int house = -1; house < vale.count(0); house++) {
            edge.beyond("beds(" + dates + ", " + house + ")", vale.beds(dates, house), -2);
        }
    }

    private void bedsDates() {
        Edges.Edge edge = edges.of(19, "BEDS for so many (1 to 36) DATES");
        DateVale vale = late(0, 2, 0);
        bedsDue(edge, true, vale, 1, 0, 0);
        bedsDue(edge, true, vale, 35, 0, 0);
        bedsDue(edge, true, vale, 36, 1, 0);
        bedsNone(edge, vale, 0);
        bedsNone(edge, vale, 37);
        bedsNone(edge, vale, -1);
        DateVale later = late(1, 3, 0);
        bedsDue(edge, false, later, 36, 0, 0);
        later.date();
        bedsDue(edge, true, later, 36, 1, 0);
        bedsDue(edge, true, later, 35, 0, 0);
        DateVale now = edges.told("house a beds 1 ; day b plain of a on 1 says 9 ; day c plain of a on 1 says 9 ; ");
        bedsDue(edge, true, now, 1, 1);
        now.date();
        bedsDue(edge, false, now, 11, 0);
        bedsDue(edge, true, now, 12, 1);
    }

    private void bedsAHouse() {
        Edges.Edge edge = edges.of(19, "the fewest beds to be built now (0 to 2 a HOUSE, 9 at most there) so that none is TURNED OFF in them");
        for (int days = 1; days <= 6; days++) {
            DateVale vale = edges.told("house a beds 1 ; " + plain("a", days));
            if (days <= 3) {
                bedsDue(edge, true, vale, 1, days - 1);
            } else {
                bedsNone(edge, vale, 1);
            }
            DateVale lent = edges.told("house a beds 1 ; house z beds 1 ; lends a z ; " + plain("a", days));
            int[][] rows = {{0, 0}, {0, 0}, {0, 1}, {0, 2}, {1, 2}, {2, 2}};
            bedsDue(edge, true, lent, 1, rows[days - 1]);
        }
        DateVale apart = edges.told("house a beds 1 ; house z beds 1 ; day b plain of a on 1 says 9 ; day c plain of a on 1 says 9 ; "
            + "day d plain of z on 1 says 9 ; day e plain of z on 1 says 9 ; ");
        bedsDue(edge, true, apart, 1, 1, 1);
        DateVale clash = edges.told("house a beds 1 ; day b plain of a on 1 says 9 ; day c plain of a on 1 says 9 ; clash b c ; ");
        bedsNone(edge, clash, 1);
        DateVale all = edges.told("house a beds 1 ; house x beds 1 ; house y beds 1 ; house z beds 1 ; "
            + "day b plain of a on 1 says 9 ; day c big of a on 1 says 9 ; day d big of x on 1 says 9 ; day e big of z on 1 says 9 ; ");
        bedsDue(edge, true, all, 1, 2, 1, 0, 1);
        DateVale six = edges.told("house a beds 1 ; house x beds 1 ; house y beds 1 ; day b plain of a on 1 says 9 ; day c big of a on 1 says 9 ; "
            + "day d plain of x on 1 says 9 ; day e big of x on 1 says 9 ; day f plain of y on 1 says 9 ; day g big of y on 1 says 9 ; ");
        bedsDue(edge, true, six, 1, 2, 2, 2);
    }

    /** So many plain ones of a HOUSE, on the date 1. */
    private static String plain(String house, int days) {
        StringBuilder text = new StringBuilder();
        for (int day = 0; day < days; day++) {
            text.append("day d").append((char) ('a' + day)).append(" plain of ").append(house).append(" on 1 says 9 ; ");
        }
        return text.toString();
    }

    private void nineBeds() {
        Edges.Edge edge = edges.of(19, "(0 to 2 a HOUSE, 9 at most there)");
        String four = "house a beds 6 ; day b big of a on 1 says 9 ; day c big of a on 1 says 9 ; day d big of a on 1 says 9 ; "
            + "day e big of a on 1 says 9 ; ";
        DateVale nine = edges.told(four + "day f plain of a on 1 says 9 ; ");
        bedsNone(edge, nine, 1);
        for (int beds = 2; beds >= 0; beds--) {
            nine.build(0);
            bedsDue(edge, true, nine, 1, beds);
        }
        DateVale ten = edges.told(four + "day f big of a on 1 says 9 ; ");
        for (int beds = 7; beds <= 9; beds++) {
            ten.build(0);
            bedsNone(edge, ten, 1);
        }
    }

    private void leastRow() {
        Edges.Edge edge = edges.of(19, "of equal ones the least row (by HOUSES): how many; how many in each.");
        String three = "house a beds 1 ; house b beds 1 ; house c beds 1 ; lends a b ; lends a c ; lends b c ; ";
        bedsDue(edge, true, edges.told(three + plain("a", 4)), 1, 0, 0, 1);
        bedsDue(edge, true, edges.told(three + plain("c", 4)), 1, 0, 0, 1);
        bedsDue(edge, true, edges.told(three + plain("a", 5)), 1, 0, 0, 2);
        bedsDue(edge, true, edges.told(three + plain("a", 6)), 1, 0, 1, 2);
        bedsDue(edge, false, edges.told("house a beds 1 ; house b beds 1 ; house c beds 1 ; lends a b ; " + plain("a", 4)), 1, 0, 2, 0);
        bedsDue(edge, false, edges.told("house a beds 1 ; house b beds 1 ; house c beds 1 ; " + plain("a", 3)), 1, 2, 0, 0);
    }

    private void bedsOthers() {
        Edges.Edge edge = edges.of(19, "BEDS, house NONE: how many; else in which; -2: others, by none.");
        DateVale vale = edges.told("house a beds 1 ; house b beds 1 ; " + plain("b", 2));
        int[] ahead = Edges.stateOf(vale);
        bedsDue(edge, true, vale, 1, 0, 1);
        edge.beyond("beds(1, -2)", vale.beds(1, -2), -2);
        edge.beyond("beds(1, 2)", vale.beds(1, 2), -2);
        for (int far : FAR) {
            edge.beyond("beds(1, " + far + ")", vale.beds(1, far), -2);
        }
        for (int far : new int[] {Integer.MIN_VALUE, -2, 38, Integer.MAX_VALUE}) {
            edge.beyond("beds(" + far + ", -1)", vale.beds(far, NONE), -2);
        }
        edge.stays("BEDS", vale, ahead);
        bedsNone(edge, edges.told("house a beds 1 ; house b beds 1 ; " + plain("b", 4)), 36);
        edge.within("no VALE: none are wanted", new DateVale().beds(36, NONE), 0);
        edge.beyond("no VALE, in 0", new DateVale().beds(36, 0), -2);
    }

    private void laying() {
        Edges.Edge edge = edges.of(20, "LAYING: in how many ways all DAYS that are somewhere can be laid in HOUSES anew, "
            + "so that none clash in one, and beds suffice.");
        String four = "house a beds 6 ; house b beds 6 ; house c beds 6 ; house d beds 6 ; ";
        int ways = 1;
        for (int days = 1; days <= 6; days++) {
            ways *= 4;
            edge.within(days + " in four", edges.told(four + plain("a", days), 1).laying(), ways);
        }
        edge.within("nobody is somewhere: one", edges.told(four + plain("a", 6)).laying(), 1);
        edge.within("no VALE: one", new DateVale().laying(), 1);
        // Two of three in one HOUSE of 2, the third in one of 1: 3; none can lie three in one.
        edge.within("three in 2 and 1", edges.told("house a beds 2 ; house b beds 1 ; lends a b ; " + plain("a", 3), 1).laying(), 3);
        edge.within("three in 3 and 1: all in a, or one of them in b",
            edges.told("house a beds 3 ; house b beds 1 ; " + plain("a", 3), 1).laying(), 4);
        String big = "house a beds 3 ; house b beds %d ; day c big of a on 1 says 9 ; day d plain of a on 1 says 9 ; ";
        edge.within("a big one does not lie in one bed", edges.told(String.format(big, 1), 1).laying(), 2);
        edge.within("it lies in two, with d elsewhere", edges.told(String.format(big, 2), 1).laying(), 3);
        String clash = "house a beds 6 ; house b beds 6 ; day c plain of a on 1 says 9 ; day d plain of b on 1 says 9 ; day e plain of b on 1 says 9 ; ";
        edge.within("three, none clash", edges.told(clash, 1).laying(), 8);
        edge.beyond("two clash", edges.told(clash + "clash c d ; ", 1).laying(), 4);
        edge.beyond("the first and the third, whoever lies between", edges.told(clash + "clash c e ; ", 1).laying(), 4);
        edge.beyond("the first with both others", edges.told(clash + "clash c d ; clash e c ; ", 1).laying(), 2);
        DateVale one = edges.told(clash + "clash d e ; ", 1);
        edge.beyond("e was TURNED OFF", one.laying(), 4);
        one.send(1);
        edge.within("c alone", one.laying(), 2);
        one.build(0);
        edge.within("anew: the same again", one.laying(), 2);
        DateVale last = edges.told(clash.replace("c plain of a on 1", "c plain of a on 2"), 1);
        edge.within("c is nowhere, d and e are laid", last.laying(), 4);
        Edges.Edge answer = edges.of(20, "LAYING, how many ways.");
        answer.within("c alone", one.laying(), 2);
        one.send(0);
        answer.beyond("nobody", one.laying(), 1);
        DateVale third = edges.told("house a beds 6 ; house b beds 6 ; " + plain("a", 3) + "clash da dc ; clash db dc ; ", 1);
        third.move(0, 1);
        answer.within("dc was TURNED OFF: da and db anywhere", third.laying(), 4);
    }

    private void apart() {
        Edges.Edge edge = edges.of(21, "APART: the fewest HOUSES, however large, by which all DAYS told are kept apart that clash.");
        String six = "house h beds 1 ; " + plain("h", 6);
        edge.within("none clash", edges.told(six).apart(), 1);
        edge.within("one DAY", edges.told("house h beds 1 ; " + plain("h", 1)).apart(), 1);
        StringBuilder all = new StringBuilder(six);
        int[] fewest = {1, 2, 3, 4, 5, 6};
        for (char day = 'a'; day <= 'f'; day++) {
            for (char other = 'a'; other < day; other++) {
                all.append("clash d").append(day).append(" d").append(other).append(" ; ");
            }
            edge.within("all up to " + day, edges.told(all.toString()).apart(), fewest[day - 'a']);
        }
        edge.beyond("more HOUSES than there are", edges.told(all.toString()).count(0), 1);
        edge.within("a ring of three", ring("abc").apart(), 3);
        edge.within("a ring of four", ring("abcd").apart(), 2);
        edge.within("a ring of five", ring("abcde").apart(), 3);
        edge.within("a ring of six", ring("abcdef").apart(), 2);
        edge.within("a ring of five and one in its midst", edges.told(six + clashes("abcde")
            + "clash df da ; clash df db ; clash df dc ; clash df dd ; clash df de ; ").apart(), 4);
        Edges.Edge answer = edges.of(21, "APART (0: no DAYS).");
        answer.beyond("no DAYS", edges.told("house h beds 1 ; ").apart(), 0);
        answer.beyond("no VALE", new DateVale().apart(), 0);
        answer.within("one that has FADED", edges.told("house h beds 1 ; day d plain of h on 1 says 0 ; ").apart(), 1);
    }

    private DateVale ring(String days) {
        return edges.told("house h beds 1 ; " + plain("h", 6) + clashes(days));
    }

    private static String clashes(String ring) {
        StringBuilder text = new StringBuilder();
        for (int at = 0; at < ring.length(); at++) {
            text.append("clash d").append(ring.charAt(at)).append(" d").append(ring.charAt((at + 1) % ring.length())).append(" ; ");
        }
        return text.toString();
    }

    private void deferDates() {
        Edges.Edge edge = edges.of(22, "the date (0 to 11) on which it should come, in place of its own, from now on");
        String text = "house a beds 3 ; day b plain of a on 3 says 9 ; day c plain of a on 7 says 9 ; day d plain of a on 5 says 9 ; stays %d ; ";
        DateVale vale = edges.told(String.format(text, 4));
        edge.within("b is there on 3 to 6, c on 7 to 10: d on 11", vale.defer(2), 11);
        edge.within("its own stays", vale.day(2, 2), 5);
        edge.within("stays 3: on 0", edges.told(String.format(text, 3)).defer(2), 0);
        DateVale early = edges.told(String.format(text, 4).replace("day d plain", "day d early"));
        edge.within("an early one on 0, so that it comes on 11", early.defer(2), 0);
        edge.beyond("each of the twelve is taken: no thirteenth, and the first", edges.told("house a beds 2 ; day b plain of a on 0 says 9 ; "
            + "day c plain of a on 4 says 9 ; day d plain of a on 8 says 9 ; day e plain of a on 5 says 9 ; stays 4 ; ").defer(3), 0);
        DateVale there = edges.told("house a beds 2 ; day b plain of a on 11 says 9 ; day c plain of a on 3 says 2 ; stays 4 ; ", 11);
        edge.within("b is there till 2, on whatever date, and does not come anew", there.defer(0), 0);
        DateVale leap = edges.told("house a beds 2 ; day b leap of a on 1 says 9 ; day c plain of a on 1 says 9 ; ");
        edge.within("a leap one on 0 comes not within 24", leap.defer(0), 0);
        String only = "house a beds 2 ; day b leap of a on 1 says 9 ; ";
        edge.within("in the year 4, behind 14 to 25: on 11 it comes not within 24", edges.told(only, 34).defer(0), 11);
        edge.within("behind 13 to 24: equal", edges.told(only, 35).defer(0), 0);
        edge.within("behind 15 to 26: on 10", edges.told(only, 33).defer(0), 10);
        DateVale leapOn = edges.told("house a beds 2 ; day b leap of a on 1 says 9 ; day c plain of a on 0 says 9 ; ", 1);
        edge.within("a leap one that is there: equal", leapOn.defer(0), 0);
    }

    private void deferAhead() {
        Edges.Edge edge = edges.of(22, "so that the most DAYS that are somewhere at once, behind one of 24 DATES, are the fewest; of equal ones the first.");
        String three = "house a beds 3 ; day g plain of a on 0 says %d ; day b plain of a on 0 says 9 ; day c plain of a on 0 says 9 ; "
            + "clash g b ; clash g c ; ";
        edge.within("b and c at once behind 24", edges.told(String.format(three, 1)).defer(2), 1);
        DateVale later = edges.told(String.format(three, 2), 11);
        edge.beyond("behind 25", later.defer(2), 0);
        later.date();
        edge.within("a DATE later", later.defer(2), 1);
        DateVale now = edges.told("house a beds 2 ; day b plain of a on 11 says 1 ; day c plain of a on 11 says 9 ; day d plain of a on 0 says 9 ; ", 11);
        edge.beyond("two now do not matter: with d on 0 they would be two", now.defer(1), 1);
        DateVale first = edges.told("house a beds 2 ; day b plain of a on 1 says 9 ; day c plain of a on 1 says 9 ; ");
        edge.within("two at once behind 1, so not on 1", first.defer(1), 0);
        DateVale only = edges.told("house a beds 2 ; day b plain of a on 0 says 9 ; day c plain of a on 0 says 9 ; ", 11);
        edge.within("behind 1", only.defer(1), 1);
        DateVale six = edges.told("house h beds 6 ; " + plain("h", 6).replace("on 1", "on 0"));
        edge.within("five at once are fewer than six", six.defer(5), 1);
        DateVale equal = edges.told("house a beds 2 ; day b plain of a on 9 says 9 ; ");
        edge.within("alone: of equal ones the first", equal.defer(0), 0);
    }

    private void deferOthers() {
        Edges.Edge edge = edges.of(22, "DEFER; NONE: others.");
        DateVale vale = edges.told("house a beds 2 ; day b plain of a on 0 says 9 ; day c plain of a on 0 says 9 ; ");
        int[] ahead = Edges.stateOf(vale);
        edge.within("defer(0)", vale.defer(0), 1);
        edge.within("defer(1)", vale.defer(1), 1);
        edge.beyond("defer(2)", vale.defer(2), NONE);
        edge.beyond("defer(NONE)", vale.defer(NONE), NONE);
        for (int far : FAR) {
            edge.beyond("defer(" + far + ")", vale.defer(far), NONE);
        }
        edge.stays("DEFER", vale, ahead);
        edge.beyond("no VALE", new DateVale().defer(0), NONE);
        edge.within("one that has FADED: equal", edges.told("house a beds 1 ; day b plain of a on 3 says 0 ; ").defer(0), 0);
    }

    private void spareBeds() {
        Edges.Edge edge = edges.of(31, "SPARE: HOUSES of more than one bed, each alone");
        DateVale vale = edges.told("house a beds 1 ; house b beds 2 ; house c beds 1 ; house d beds 6 ; ");
        edge.within("b and d", vale.spare(), 10);
        vale.build(0);
        edge.within("a, too", vale.spare(), 11);
        edge.beyond("c has one bed", vale.spare() & 4, 0);
        DateVale each = edges.told("house a beds 2 ; house b beds 2 ; lends a b ; " + plain("a", 3));
        edge.within("each alone, though not both", each.spare(), 3);
        DateVale both = edges.told("house a beds 2 ; house b beds 2 ; lends a b ; " + plain("a", 4));
        edge.beyond("neither", both.spare(), 0);
        Edges.Edge answer = edges.of(31, "SPARE, as bits.");
        answer.within("all four", edges.told("house a beds 2 ; house b beds 2 ; house c beds 2 ; house d beds 2 ; ").spare(), 15);
        answer.beyond("no VALE", new DateVale().spare(), 0);
        int[] ahead = Edges.stateOf(each);
        answer.within("once more", each.spare(), 3);
        answer.stays("SPARE", each, ahead);
    }

    private void spareDates() {
        Edges.Edge edge = edges.of(31, "such that with a bed less now none would be TURNED OFF in 24 DATES (bits).");
        String leap = "house a beds 2 ; day c leap of a on %d says 9 ; day d leap of a on %d says 9 ; ";
        DateVale late = edges.told(String.format(leap, 0, 0), 23);
        edge.beyond("behind 25: it can be spared", late.spare(), 1);
        late.date();
        edge.within("behind 24: it can't", late.spare(), 0);
        Bench.dates(late, 23);
        edge.within("behind 1", late.spare(), 0);
        DateVale there = edges.told("house a beds 2 ; day c plain of a on 1 says 1 ; day d plain of a on 1 says 1 ; ", 1);
        edge.beyond("both lie there, nobody comes any more", there.spare(), 1);
        DateVale full = edges.told("house a beds 2 ; day c plain of a on 1 says 1 ; day d plain of a on 2 says 1 ; stays 2 ; ", 1);
        edge.within("c lies in the one bed when d comes", full.spare(), 0);
        edge.within("one is TURNED OFF anyway", edges.told("house a beds 2 ; house b beds 6 ; " + plain("a", 3)).spare(), 0);
        edge.within("a big one wants both", edges.told("house a beds 2 ; day c big of a on 1 says 9 ; ").spare(), 0);
        edge.beyond("of three", edges.told("house a beds 3 ; day c big of a on 1 says 9 ; ").spare(), 1);
    }

    private void chanceDates() {
        Edges.Edge edge = edges.of(32, "CHANCE: in each of so many (1 to 6) DATES, ahead of it, there is a flood by odds of ten: all who are somewhere go");
        DateVale vale = edges.told("house a beds 1 ; day b plain of a on 5 says 9 ; day c plain of a on 6 says 9 ; stays 2 ; ");
        edge.within("c, in 5", vale.chance(1, 5, 3), 0);
        edge.within("c, in 6: unless there is a flood ahead of the sixth", vale.chance(1, 6, 3), 700000);
        edge.beyond("in 7", vale.chance(1, 7, 3), NONE);
        edge.beyond("in 0", vale.chance(1, 0, 3), NONE);
        Bench.dates(vale, 5);
        edge.within("c, in 1: b goes by a flood ahead of it", vale.chance(1, 1, 3), 700000);
        edge.within("and no more in 6", vale.chance(1, 6, 3), 700000);
        edge.within("b is not TURNED OFF", vale.chance(0, 6, 3), 0);
        DateVale same = edges.told("house a beds 1 ; day b plain of a on 1 says 9 ; day c plain of a on 1 says 9 ; ");
        edge.within("a flood ahead of the DATE does not take who comes with it", same.chance(1, 1, 9), 1000000);
        Edges.Edge millionths = edges.of(32, "that a DAY is TURNED OFF in these, in millionths, cut.");
        // a is there on 1 to 4; b comes on 4 if a flood takes it ahead of 2, 3 or 4 (271 of 1,000); c on 6 is TURNED OFF if
        // none takes b ahead of 5 or 6 (81 of 100).
        DateVale chain = edges.told("house h beds 1 ; day a plain of h on 1 says 9 ; day b plain of h on 4 says 9 ; day c plain of h on 6 says 9 ; stays 4 ; ");
        millionths.within("729 of 1,000", chain.chance(1, 6, 1), 729000);
        millionths.within("271 * 81 of 100,000", chain.chance(2, 6, 1), 219510);
        millionths.within("(1,000 - 1) * 1 of 100,000", chain.chance(2, 6, 9), 9990);
        millionths.within("1 of 1,000", chain.chance(1, 6, 9), 1000);
        millionths.beyond("ahead of the DATE by which it is", chain.chance(2, 5, 1), 0);
        millionths.beyond("one who is never TURNED OFF", chain.chance(0, 6, 5), 0);
    }

    private void chanceOdds() {
        Edges.Edge edge = edges.of(32, "CHANCE, by odds (0 to 10); NONE: others.");
        DateVale vale = edges.told("house a beds 1 ; day b plain of a on 1 says 9 ; day c plain of a on 2 says 9 ; stays 2 ; ");
        for (int odds = 0; odds <= 10; odds++) {
            edge.within("odds " + odds, vale.chance(1, 2, odds), 100000 * (10 - odds));
            edge.within("odds " + odds + ", in 6", vale.chance(1, 6, odds), 100000 * (10 - odds));
        }
        edge.beyond("odds -1", vale.chance(1, 2, -1), NONE);
        edge.beyond("odds 11", vale.chance(1, 2, 11), NONE);
        edge.beyond("chance(2, 2, 5)", vale.chance(2, 2, 5), NONE);
        edge.beyond("chance(NONE, 2, 5)", vale.chance(NONE, 2, 5), NONE);
    }

    private void chanceOthers() {
        Edges.Edge edge = edges.of(32, "NONE: others.");
        DateVale vale = edges.told("house a beds 1 ; day b plain of a on 1 says 9 ; ");
        int[] ahead = Edges.stateOf(vale);
        edge.within("chance(0, 1, 5)", vale.chance(0, 1, 5), 0);
        for (int far : FAR) {
            edge.beyond("chance(" + far + ", 1, 5)", vale.chance(far, 1, 5), NONE);
            edge.beyond("chance(0, " + far + ", 5)", vale.chance(0, far, 5), NONE);
        }
        for (int far : new int[] {Integer.MIN_VALUE, -2, 12, 100000, Integer.MAX_VALUE}) {
            edge.beyond("chance(0, 1, " + far + ")", vale.chance(0, 1, far), NONE);
        }
        edge.stays("CHANCE", vale, ahead);
        edge.beyond("no VALE", new DateVale().chance(0, 1, 5), NONE);
    }

    /** A DRAW below so many, with numbers that have no end. */
    private static int draw(BigInteger[] seed, int below) {
        seed[0] = seed[0].multiply(BigInteger.valueOf(1103515245)).add(BigInteger.valueOf(12345)).mod(BigInteger.TWO.pow(31));
        return seed[0].divide(BigInteger.valueOf(65536)).mod(BigInteger.valueOf(below)).intValue();
    }

    /** AGES by hand on the vale itself: how many COME, how many are TURNED OFF, what all say; then 0, 1: acts that could be. */
    private static int[] byHand(DateVale vale, int seed, int dates) {
        BigInteger[] drawn = {BigInteger.valueOf(seed)};
        int days = vale.count(1);
        int houses = vale.count(0);
        int[] answers = new int[5];
        int off = vale.count(7);
        for (int gone = 0; gone < dates; gone++) {
            int act = draw(drawn, 6);
            if (act == 0) {
                answers[3] += vale.send(draw(drawn, days)) ? 1 : 0;
            } else if (act == 1) {
                int day = draw(drawn, days);
                answers[4] += vale.move(day, draw(drawn, houses)) ? 1 : 0;
            }
            answers[0] += Integer.bitCount(vale.date());
        }
        answers[1] = vale.count(7) - off;
        for (int day = 0; day < days; day++) {
            answers[2] += vale.day(day, 3);
        }
        return answers;
    }

    private static final String BUSY = "house a beds 1 ; house b beds 2 ; house c beds 1 ; lends a b ; day d plain of a on 1 says 30 ; "
        + "day e big of b on 2 says 20 ; day f early of a on 4 says 10 ; day g leap of c on 3 says 40 ; day i plain of b on 5 says 9 ; "
        + "clash d f ; stays 4 ; fades full - 3 ; ";

    private void draws() {
        Edges.Edge edge = edges.of(34, "A DRAW below m: g becomes (g * 1103515245 + 12345) modulo 2147483648 (g is the SEED at first); "
            + "it is g / 65536, cut, modulo m.");
        int sent = 0;
        int moved = 0;
        for (int seed : new int[] {0, 1, 2, 3, 7, 13, 77, 500, 4999, 8191, 8192, 9998, 9999}) {
            for (int dates : new int[] {1, 2, 14, 50, 99}) {
                DateVale vale = edges.told(BUSY, 2);
                int[] got = {vale.ages(seed, dates, 0), vale.ages(seed, dates, 1), vale.ages(seed, dates, 2)};
                int[] want = byHand(vale, seed, dates);
                for (int what = 0; what < 3; what++) {
                    edge.within("ages(" + seed + ", " + dates + ", " + what + ")", got[what], want[what]);
                }
                sent += want[3];
                moved += want[4];
            }
        }
        edge.beyond("some were SENT off, some MOVED", sent > 0 && moved > 0, true);
    }

    /** SEEDS by whose first DRAW one is SENT off, or MOVED; one DAY and one HOUSE, or two. */
    private void agesActs() {
        Edges.Edge edge = edges.of(34, "each, if there are DAYS: a DRAW below 6: 0: one below DAYS is SENT off, if it can be, "
            + "1: one below DAYS, one below HOUSES: that MOVE, if it can be; then the DATE");
        DateVale none = edges.told("house a beds 1 ; ");
        edge.beyond("no DAYS: no DRAW, the DATES alone", none.ages(9999, 99, 0) + none.ages(9999, 99, 1) + none.ages(9999, 99, 2), 0);
        edge.beyond("no VALE", new DateVale().ages(0, 99, 0), 0);
        int sent = 0;
        int moved = 0;
        for (int seed = 0; seed < 60; seed++) {
            BigInteger[] drawn = {BigInteger.valueOf(seed)};
            int act = draw(drawn, 6);
            DateVale one = edges.told("house a beds 1 ; day b plain of a on 1 says 9 ; day c plain of a on 2 says 9 ; stays 4 ; ", 1);
            boolean sentOff = act == 0 && draw(drawn, 2) == 0;
            sent += sentOff ? 1 : 0;
            edge.within("c comes if b is SENT off, seed " + seed, one.ages(seed, 1, 0), sentOff ? 1 : 0);
            edge.within("else it is TURNED OFF, seed " + seed, one.ages(seed, 1, 1), sentOff ? 0 : 1);
            BigInteger[] again = {BigInteger.valueOf(seed)};
            DateVale two = edges.told("house a beds 1 ; house z beds 1 ; day b plain of a on 1 says 9 ; day c plain of a on 2 says 9 ; stays 4 ; ", 1);
            act = draw(again, 6);
            boolean away = act < 2 && draw(again, 2) == 0 && (act == 0 || draw(again, 2) == 1);
            moved += away && act == 1 ? 1 : 0;
            edge.within("c comes if b is away, seed " + seed, two.ages(seed, 1, 0), away ? 1 : 0);
        }
        edge.within("such seeds were among them", sent > 0 && moved > 0, true);
    }

    private void agesEdges() {
        Edges.Edge dates = edges.of(34, "AGES by a SEED of so many DATES (1 to 99), from now on (all is as ahead then)");
        DateVale vale = edges.told("house a beds 1 ; day b plain of a on 3 says 40 ; day c big of a on 3 says 40 ; ");
        dates.within("2", vale.ages(0, 2, 0), 0);
        dates.within("3", vale.ages(0, 3, 0), 1);
        dates.within("98: on 3 and seven years more", vale.ages(0, 98, 0), 8);
        dates.within("99: and eight", vale.ages(0, 99, 0), 9);
        dates.within("99: c, as often", vale.ages(0, 99, 1), 9);
        dates.beyond("100", vale.ages(0, 100, 0), NONE);
        dates.beyond("0", vale.ages(0, 0, 0), NONE);
        dates.within("1", vale.ages(0, 1, 2), 80);
        int[] ahead = Edges.stateOf(vale);
        vale.ages(5, 99, 2);
        dates.stays("AGES", vale, ahead);
        Bench.dates(vale, 3);
        dates.within("from now on", vale.ages(0, 12, 0), 1);
        dates.within("not those that were TURNED OFF ahead", vale.ages(0, 11, 1), 0);
        Edges.Edge says = edges.of(34, "how many COME by these; how many are TURNED OFF; what all DAYS say at last.");
        says.within("COME", vale.ages(0, 24, 0), 2);
        says.within("TURNED OFF", vale.ages(0, 24, 1), 2);
        says.within("39 less 2, and 40", vale.ages(0, 24, 2), 37 + 40);
        says.beyond("those that are nowhere say it, too", vale.ages(0, 1, 2), 39 + 40);
        Edges.Edge others = edges.of(34, "AGES by a SEED (0 to 9999), what 0: COME, 1: TURNED OFF, 2: says; NONE: others.");
        others.within("SEED 0", vale.ages(0, 12, 0), 1);
        others.within("SEED 9999", vale.ages(9999, 12, 1), 1);
        others.beyond("SEED -1", vale.ages(-1, 12, 0), NONE);
        others.beyond("SEED 10000", vale.ages(10000, 12, 0), NONE);
        others.within("what 2", vale.ages(0, 1, 2), 79);
        others.beyond("what 3", vale.ages(0, 1, 3), NONE);
        others.beyond("what -1", vale.ages(0, 1, -1), NONE);
        for (int far : new int[] {Integer.MIN_VALUE, -2, 10001, Integer.MAX_VALUE}) {
            others.beyond("ages(" + far + ", 1, 0)", vale.ages(far, 1, 0), NONE);
            others.beyond("ages(0, " + far + ", 0)", vale.ages(0, far, 0), NONE);
            others.beyond("ages(0, 1, " + far + ")", vale.ages(0, 1, far), NONE);
        }
    }
}
