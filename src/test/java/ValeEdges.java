import java.util.NoSuchElementException;

/** Promises 26 to 30, 33, 35 and 36: doors, what is said, the CHAIR, MARKS and counts. */
final class ValeEdges {
    private static final int NONE = DateVale.NONE;
    private static final int[] FAR = {Integer.MIN_VALUE, -32, -2, 7, 32, 1024, Integer.MAX_VALUE};
    private static final String FOUR = "house a beds 1 ; house b beds 1 ; house c beds 1 ; house d beds 1 ; ";

    private final Edges edges;

    ValeEdges(Edges edges) {
        this.edges = edges;
    }

    void all() {
        through();
        throughOthers();
        quiet();
        peace();
        loudest();
        eldest();
        chair();
        restsOthers();
        marks();
        markHolds();
        markSeen();
        markOthers();
        count();
        countSigns();
        toldThrice();
    }

    private void doors(Edges.Edge edge, DateVale vale, int[][] want) {
        for (int house = 0; house < want.length; house++) {
            for (int other = 0; other < want.length; other++) {
                String what = "through(" + house + ", " + other + ")";
                if (want[house][other] == NONE) {
                    edge.beyond(what, vale.through(house, other), NONE);
                } else {
                    edge.within(what, vale.through(house, other), want[house][other]);
                }
            }
        }
    }

    private void through() {
        Edges.Edge edge = edges.of(26, "THROUGH: by how many doors, at least, one HOUSE borrows of another one (by those that lend).");
        doors(edge, edges.told(FOUR), new int[][] {{0, NONE, NONE, NONE}, {NONE, 0, NONE, NONE}, {NONE, NONE, 0, NONE}, {NONE, NONE, NONE, 0}});
        doors(edge, edges.told(FOUR + "lends a d ; "), new int[][] {{0, NONE, NONE, 1}, {NONE, 0, NONE, NONE}, {NONE, NONE, 0, NONE}, {1, NONE, NONE, 0}});
        doors(edge, edges.told(FOUR + "lends c a ; lends a d ; lends d b ; "), new int[][] {{0, 2, 1, 1}, {2, 0, 3, 1}, {1, 3, 0, 2}, {1, 1, 2, 0}});
        doors(edge, edges.told(FOUR + "lends a b ; lends b c ; lends c d ; lends d a ; "), new int[][] {{0, 1, 2, 1}, {1, 0, 1, 2}, {2, 1, 0, 1}, {1, 2, 1, 0}});
        doors(edge, edges.told(FOUR + "lends a b ; lends a c ; lends a d ; lends b c ; lends b d ; lends c d ; "),
            new int[][] {{0, 1, 1, 1}, {1, 0, 1, 1}, {1, 1, 0, 1}, {1, 1, 1, 0}});
        doors(edge, edges.told(FOUR + "lends a b ; lends c d ; "), new int[][] {{0, 1, NONE, NONE}, {1, 0, NONE, NONE}, {NONE, NONE, 0, 1}, {NONE, NONE, 1, 0}});
    }

    private void throughOthers() {
        Edges.Edge edge = edges.of(26, "THROUGH (0: the same); NONE: others, never.");
        DateVale vale = edges.told("house a beds 1 ; house b beds 1 ; lends a b ; ");
        edge.within("through(1, 1)", vale.through(1, 1), 0);
        edge.within("through(0, 1)", vale.through(0, 1), 1);
        edge.beyond("through(2, 2)", vale.through(2, 2), NONE);
        edge.beyond("through(0, 2)", vale.through(0, 2), NONE);
        edge.beyond("through(2, 0)", vale.through(2, 0), NONE);
        edge.beyond("through(NONE, NONE)", vale.through(NONE, NONE), NONE);
        edge.beyond("through(NONE, 0)", vale.through(NONE, 0), NONE);
        edge.beyond("through(0, NONE)", vale.through(0, NONE), NONE);
        for (int far : FAR) {
            edge.beyond("through(" + far + ", 0)", vale.through(far, 0), NONE);
            edge.beyond("through(0, " + far + ")", vale.through(0, far), NONE);
            edge.beyond("through(" + far + ", " + far + ")", vale.through(far, far), NONE);
        }
        edge.beyond("no VALE", new DateVale().through(0, 0), NONE);
    }

    /** DAYS of h that say so much, all on the date 1. */
    private DateVale saying(int... says) {
        StringBuilder text = new StringBuilder("house h beds 6 ; ");
        for (int day = 0; day < says.length; day++) {
            text.append("day d").append((char) ('a' + day)).append(" plain of h on 1 says ").append(says[day]).append(" ; ");
        }
        return edges.told(text.toString());
    }

    private void quiet() {
        Edges.Edge edge = edges.of(27, "QUIET: the DAY that says the least; of equal ones the first.");
        edge.within("the last", saying(3, 2, 2, 2, 9, 1).quiet(), 5);
        edge.within("the first of equal ones", saying(3, 2, 2, 2).quiet(), 1);
        edge.within("all equal", saying(2, 2, 2).quiet(), 0);
        edge.within("one that has FADED", saying(1, 0, 0).quiet(), 1);
        edge.within("40", saying(40).quiet(), 0);
        DateVale vale = saying(2, 3, 1);
        edge.within("ahead", vale.quiet(), 2);
        vale.send(0);
        vale.date();
        edge.within("all say one less", vale.quiet(), 2);
        DateVale grown = edges.told("house h beds 1 ; day a plain of h on 1 says 1 ; day b plain of h on 2 says 2 ; fades 9 ; ", 1);
        edge.beyond("the first says 10 now", grown.quiet(), 1);
        Edges.Edge answer = edges.of(27, "QUIET; NONE: no DAYS.");
        answer.within("one DAY", saying(0).quiet(), 0);
        answer.beyond("no DAYS", edges.told("house a beds 1 ; ").quiet(), NONE);
        answer.beyond("no VALE", new DateVale().quiet(), NONE);
    }

    private void peace() {
        Edges.Edge edge = edges.of(28, "PEACE: pairs of DAYS somewhere that are in one HOUSE.");
        int[] pairs = {0, 1, 3, 6, 10, 15};
        int[] says = {9, 9, 9, 9, 9, 9};
        for (int days = 1; days <= 6; days++) {
            DateVale vale = saying(java.util.Arrays.copyOf(says, days));
            edge.beyond("none is somewhere", vale.peace(), 0);
            vale.date();
            edge.within(days + " in one HOUSE", vale.peace(), pairs[days - 1]);
        }
        DateVale two = edges.told("house a beds 2 ; house b beds 2 ; day c plain of a on 1 says 9 ; day d plain of b on 1 says 9 ; "
            + "day e big of b on 1 says 9 ; day f plain of b on 1 says 9 ; ", 1);
        edge.beyond("c in a, d and f in b: e is nowhere", two.peace(), 1);
        two.move(0, 1);
        edge.within("b is full", two.peace(), 1);
        two.send(1);
        edge.beyond("f and c, each alone", two.peace(), 0);
        two.move(0, 1);
        edge.within("f and c", two.peace(), 1);
        Edges.Edge answer = edges.of(28, "PEACE, how many.");
        answer.within("one pair", two.peace(), 1);
        answer.beyond("no VALE", new DateVale().peace(), 0);
    }

    private void loudest() {
        Edges.Edge edge = edges.of(29, "LOUDEST: the HOUSE with the most TALK, if any; of equal ones the first.");
        String two = "house a beds 2 ; house b beds 2 ; day c plain of a on 1 says %d ; day d plain of b on 1 says %d ; "
            + "day e plain of b on 1 says %d ; ";
        edge.within("3 and 4", edges.told(String.format(two, 4, 3, 3), 1).loudest(), 1);
        edge.within("4 and 4: the first", edges.told(String.format(two, 5, 3, 3), 1).loudest(), 0);
        edge.within("5 and 4", edges.told(String.format(two, 6, 3, 3), 1).loudest(), 0);
        edge.within("0 and 1", edges.told(String.format(two, 1, 2, 1), 1).loudest(), 1);
        edge.beyond("0 and 0: no TALK", edges.told(String.format(two, 1, 1, 1), 1).loudest(), NONE);
        DateVale vale = edges.told(String.format(two, 9, 3, 3));
        edge.beyond("nobody is somewhere", vale.loudest(), NONE);
        vale.date();
        vale.send(0);
        edge.within("b alone", vale.loudest(), 1);
        DateVale last = edges.told(FOUR + "day e plain of d on 1 says 2 ; ", 1);
        edge.within("the last of four", last.loudest(), 3);
        Edges.Edge answer = edges.of(29, "LOUDEST; NONE: none.");
        answer.within("a TALK of 1", last.house(3, 4), 1);
        answer.within("is one", last.loudest(), 3);
        last.send(0);
        answer.beyond("nobody", last.loudest(), NONE);
        answer.beyond("no VALE", new DateVale().loudest(), NONE);
    }

    private void eldest() {
        Edges.Edge edge = edges.of(30, "ELDEST of a HOUSE: the DAY that has been there the longest; of equal ones the first.");
        DateVale vale = edges.told("house a beds 6 ; house b beds 1 ; day c plain of a on 4 says 9 ; day d plain of a on 3 says 9 ; "
            + "day e plain of a on 2 says 9 ; day f plain of a on 2 says 9 ; day g plain of b on 1 says 9 ; stays 4 ; ", 4);
        edge.within("e, for 2, as f", vale.eldest(0), 2);
        edge.within("g", vale.eldest(1), 4);
        vale.send(2);
        edge.within("f", vale.eldest(0), 3);
        vale.send(3);
        edge.within("d", vale.eldest(0), 1);
        vale.send(1);
        edge.within("c, for 0", vale.eldest(0), 0);
        vale.send(0);
        edge.beyond("nobody", vale.eldest(0), NONE);
        Edges.Edge answer = edges.of(30, "ELDEST; NONE: others, nobody is there.");
        answer.within("eldest(1)", vale.eldest(1), 4);
        answer.beyond("nobody is there", vale.eldest(0), NONE);
        answer.beyond("eldest(2)", vale.eldest(2), NONE);
        answer.beyond("eldest(NONE)", vale.eldest(NONE), NONE);
        for (int far : FAR) {
            answer.beyond("eldest(" + far + ")", vale.eldest(far), NONE);
        }
        vale.date();
        answer.beyond("g has gone", vale.eldest(1), NONE);
        answer.beyond("no VALE", new DateVale().eldest(0), NONE);
    }

    /** The answer, or -9 for a NoSuchElementException. */
    private static int rests(DateVale vale, int[] chair, int what) {
        try {
            return vale.rests(chair[0], chair[1], chair[2], what);
        } catch (NoSuchElementException none) {
            return -9;
        }
    }

    /** Both give it up, and rest so, if who sits alone gets nothing; both sit if neither loses nor would get anything. */
    private void chair() {
        Edges.Edge edge = edges.of(33, "CHAIR of two: each sits or gives it up: both sit: each loses so much (0 to 9); one sits: he gets so much (0 to 9), "
            + "the other one so much (0 to 9); both give it up: nothing: RESTS: by which neither would get more by the other.");
        for (int lose = 0; lose <= 9; lose++) {
            DateVale vale = new DateVale();
            for (int sits = 0; sits <= 1; sits++) {
                for (int gives = 0; gives <= 9; gives += gives == 1 ? 8 : 1) {
                    restsDue(edge, vale, new int[] {lose, sits, gives});
                }
            }
            restsDue(edge, vale, new int[] {lose, 9, 0});
            restsDue(edge, vale, new int[] {lose, 9, 9});
        }
        DateVale vale = new DateVale();
        for (int at = 0; at < 3; at++) {
            for (int wrong : new int[] {-1, 10, Integer.MIN_VALUE, Integer.MAX_VALUE}) {
                int[] chair = {1, 1, 1};
                chair[at] = wrong;
                edge.beyond("others, how many, " + at + ": " + wrong, rests(vale, chair, NONE), -9);
                edge.beyond("others, the first, " + at + ": " + wrong, rests(vale, chair, 0), -9);
            }
        }
    }

    private static void restsDue(Edges.Edge edge, DateVale vale, int[] chair) {
        boolean bothGive = chair[1] == 0;
        boolean bothSit = chair[0] == 0 && chair[2] == 0;
        int[] want = {bothGive ? 0 : 1, bothGive ? 1 : 2, bothGive ? 2 : 3, 3};
        int many = 2 + (bothGive ? 1 : 0) + (bothSit ? 1 : 0);
        String what = "rests of " + chair[0] + ", " + chair[1] + ", " + chair[2];
        edge.within(what + ", how many", rests(vale, chair, NONE), many);
        for (int at = 0; at < many; at++) {
            edge.within(what + ", " + at, rests(vale, chair, at), want[at]);
        }
        edge.beyond(what + ", " + many, rests(vale, chair, many), -9);
        edge.beyond(what + ", -2", rests(vale, chair, -2), -9);
    }

    private void restsOthers() {
        Edges.Edge edge = edges.of(33, "what NONE: how many; i: the i-th as 2 * the first one's choice + the other one's (1 sits; the least first). "
            + "NoSuchElementException: others, none such.");
        DateVale vale = edges.told(FOUR);
        int[] all = {0, 0, 0};
        edge.within("four", rests(vale, all, NONE), 4);
        for (int at = 0; at < 4; at++) {
            edge.within("the least first, " + at, rests(vale, all, at), at);
        }
        edge.beyond("no fifth", rests(vale, all, 4), -9);
        int[] two = {9, 9, 9};
        edge.within("the first gives it up", rests(vale, two, 0), 1);
        edge.within("the other one does", rests(vale, two, 1), 2);
        edge.beyond("no third", rests(vale, two, 2), -9);
        for (int far : FAR) {
            edge.beyond("what " + far, rests(vale, two, far), -9);
        }
        edge.beyond("what -2", rests(vale, two, -2), -9);
        edge.beyond("others, what NONE", rests(vale, new int[] {9, 9, 10}, NONE), -9);
        int[] ahead = Edges.stateOf(vale);
        rests(vale, two, 2);
        edge.stays("what throws", vale, ahead);
    }

    private void marks() {
        Edges.Edge edge = edges.of(35, "MARKS 0 to 3");
        DateVale vale = edges.told("house a beds 1 ; ");
        for (int mark = 0; mark < 4; mark++) {
            edge.beyond("nothing on " + mark, vale.mark(mark, true), false);
            edge.within("laid, " + mark, vale.mark(mark, false), true);
            vale.date();
        }
        edge.beyond("mark(4, false)", vale.mark(4, false), false);
        edge.beyond("mark(-1, false)", vale.mark(-1, false), false);
        for (int mark = 3; mark >= 0; mark--) {
            edge.within("gone back to " + mark, vale.mark(mark, true), true);
            edge.within("each its own date", vale.count(4), mark);
        }
        edge.within("once more", vale.mark(3, true), true);
        edge.within("it is there yet", vale.count(4), 3);
        vale.date();
        edge.within("laid anew", vale.mark(3, false), true);
        edge.within("gone back to 0", vale.mark(0, true), true);
        edge.within("and to 3", vale.mark(3, true), true);
        edge.within("the later one", vale.count(4), 4);
    }

    private static final String BUSY = "house a beds 1 ; house b beds 3 ; lends a b ; day c plain of a on 1 says 9 ; day d big of a on 1 says 8 ; "
        + "day e plain of a on 2 says 7 ; stays 3 ; ";

    private void markHolds() {
        Edges.Edge edge = edges.of(35, "hold all that UNDO brings back, what is SEEN (nothing can be undone when one is gone back to).");
        DateVale vale = edges.told(BUSY, 2);
        vale.see(1, 0);
        vale.see(NONE, 12);
        vale.see(0, 11);
        edge.within("three can be undone: none of SEEN", vale.count(11), 2);
        int[] ahead = Edges.stateOf(vale);
        vale.mark(1, false);
        edge.stays("a MARK laid", vale, ahead);
        vale.build(0);
        vale.see(1, 24);
        vale.send(0);
        vale.move(2, 0);
        Bench.dates(vale, 12);
        edge.beyond("all is otherwise", vale.count(3), 1);
        edge.beyond("four are SEEN", vale.count(10), 4);
        edge.within("gone back to", vale.mark(1, true), true);
        ahead[11] = 0;
        edge.stays("gone back to", vale, ahead);
        edge.beyond("nothing can be undone", vale.undo(), false);
        vale.build(0);
        edge.within("what is done behind can", vale.undo(), true);
        edge.beyond("but no more", vale.undo(), false);
    }

    /** Each MARK holds its own SEEN, whatever was SEEN behind it. */
    private void markSeen() {
        Edges.Edge edge = edges.of(35, "what is SEEN");
        DateVale vale = edges.told(BUSY, 1);
        edge.within("nothing SEEN", vale.mark(0, false), true);
        vale.see(0, 0);
        vale.see(NONE, 3);
        edge.within("c is in a now, and behind 3 in none", vale.who(), 1);
        vale.mark(3, false);
        edge.within("back to nothing SEEN", vale.mark(0, true), true);
        edge.within("all", vale.who(), 7);
        vale.see(1, 0);
        vale.see(1, 2);
        edge.beyond("d is in b now, and behind 2", vale.who(), 2);
        edge.within("back", vale.mark(3, true), true);
        edge.within("two are SEEN", vale.count(10), 2);
        edge.within("c again", vale.who(), 1);
        edge.within("back to nothing SEEN once more", vale.mark(0, true), true);
        for (int more = 0; more < 8; more++) {
            edge.within("eight can be SEEN", vale.see(1, 1), true);
        }
        edge.beyond("and no ninth", vale.see(1, 1), false);
    }

    private void markOthers() {
        Edges.Edge edge = edges.of(35, "A MARK is laid (back: gone back to): true; false: none such, nothing is on it (back).");
        DateVale vale = edges.told(BUSY, 1);
        edge.within("laid", vale.mark(0, false), true);
        edge.within("laid, the last", vale.mark(3, false), true);
        vale.date();
        vale.see(NONE, 3);
        int[] ahead = Edges.stateOf(vale);
        edge.beyond("nothing on 1", vale.mark(1, true), false);
        edge.beyond("nothing on 2", vale.mark(2, true), false);
        for (int wrong : new int[] {Integer.MIN_VALUE, -2, -1, 4, 5, Integer.MAX_VALUE}) {
            edge.beyond("mark(" + wrong + ", false)", vale.mark(wrong, false), false);
            edge.beyond("mark(" + wrong + ", true)", vale.mark(wrong, true), false);
        }
        edge.stays("none such", vale, ahead);
        edge.within("what can be undone is there yet", vale.undo(), true);
        Bench.tellYear(vale, "date ; date ;");
        Bench.feed(vale, "abc");
        edge.within("gone back to 3", vale.mark(3, true), true);
        edge.within("the YEAR stays", vale.count(9), 2);
        edge.within("the TAPE stays", vale.count(12), 3);
        edge.within("the other MARKS stay", vale.mark(0, true), true);
        edge.within("on a new object", new DateVale().mark(0, false), true);
        edge.beyond("nothing on one of a new object", new DateVale().mark(0, true), false);
    }

    private void count() {
        Edges.Edge edge = edges.of(36, "What 0: HOUSES, 1: DAYS, 2: how long one stays, 3: the year, 4: the date, 5: DAYS that are somewhere, as bits, "
            + "6: beds of all, 7: how many were TURNED OFF, 8: DAYS that have FADED, as bits, 9: lines of the YEAR, 10: SEEN, "
            + "11: what can be undone, 12: signs on the TAPE. NONE for another what.");
        DateVale vale = edges.told("house a beds 1 ; house b beds 6 ; house c beds 2 ; day d plain of a on 2 says 9 ; day e big of a on 2 says 1 ; "
            + "day f plain of b on 2 says 1 ; day g plain of b on 1 says 2 ; stays 4 ; ");
        int[] fresh = {3, 4, 4, 0, 0, 0, 9, 0, 0, 0, 0, 0, 0};
        for (int what = 0; what < 13; what++) {
            edge.within("at first, count(" + what + ")", vale.count(what), fresh[what]);
        }
        Bench.dates(vale, 14);
        vale.build(2);
        vale.see(NONE, 1);
        vale.see(NONE, 2);
        vale.see(NONE, 3);
        Bench.tellYear(vale, "date ; date ; date ; date ; date ;");
        Bench.feed(vale, "abcdefg");
        // e was TURNED OFF on 2 and on 14; f has FADED on 2, g on 13; d and g are there.
        int[] want = {3, 4, 4, 1, 2, 1 + 8, 10, 2, 4 + 8, 5, 3, 15, 7};
        for (int what = 0; what < 13; what++) {
            edge.within("count(" + what + ")", vale.count(what), want[what]);
        }
        edge.beyond("count(-1)", vale.count(-1), NONE);
        edge.beyond("count(13)", vale.count(13), NONE);
        for (int far : new int[] {Integer.MIN_VALUE, -2, 14, 100, Integer.MAX_VALUE}) {
            edge.beyond("count(" + far + ")", vale.count(far), NONE);
        }
        edge.beyond("no VALE, count(13)", new DateVale().count(13), NONE);
    }

    private void countSigns() {
        Edges.Edge edge = edges.of(36, "12: signs on the TAPE. NONE for another what.");
        DateVale vale = new DateVale();
        edge.within("none", vale.count(12), 0);
        Bench.feed(vale, "x".repeat(1000));
        edge.within("1,000", vale.count(12), 1000);
        Bench.feed(vale, "x");
        edge.within("no more", vale.count(12), 1000);
        edge.beyond("count(13)", vale.count(13), NONE);
        vale.vale();
        edge.within("taken", vale.count(12), 0);
    }

    /** Nothing of a VALE told ahead is left in the next but one, or behind one with a FAULT. */
    private void toldThrice() {
        Edges.Edge edge = edges.of(3, "Without a FAULT a VALE is the VALE from then on");
        String rich = FOUR + "lends a b ; lends c d ; lends a d ; day e big of a on 1 says 9 ; day f leap of b on 1 says 9 ; clash e f ; "
            + "stays 4 ; fades 5 + 4 ; ";
        String poor = "house a beds 2 ; house b beds 2 ; day e plain of a on 1 says 9 ; day f plain of a on 1 says 9 ; ";
        int[] want = Edges.stateOf(edges.told(poor, 3));
        for (String between : new String[] {"", rich, rich + ";", "stays 3 ; fades 9 ; fades"}) {
            DateVale vale = edges.told(rich, 3);
            Bench.tell(vale, between);
            edge.within("poor", Bench.tell(vale, poor), 0);
            Bench.dates(vale, 3);
            edge.stays("behind rich, " + between + ", and poor", vale, want);
        }
        DateVale laws = new DateVale();
        for (int more = 1; more <= 9; more++) {
            edge.within("a law of 1,000 signs", Bench.tell(laws, longLaw(more)), 0);
            laws.date();
            edge.within("all of it counts, and none of those ahead", laws.day(0, 3), 9 + more);
        }
        DateVale vale = edges.told(rich, 3);
        edge.beyond("a FAULT", Bench.tell(vale, poor + "fades 1 ; fades"), 3 + 16 * (poor.length() + 10));
        edge.beyond("it is the rich one yet", vale.count(0), 4);
        edge.beyond("by whose law they say", vale.day(1, 3), 18);
    }

    /** A VALE of 1,000 signs, by whose law one says so much more. */
    private static String longLaw(int more) {
        StringBuilder text = new StringBuilder("house a beds 1;day b plain of a on 1says 9;fades 1-1");
        while (text.length() < 992) {
            text.append("+1-1");
        }
        text.append("+").append(more).append(" ".repeat(997 - text.length())).append(" ;");
        return text.append(" ".repeat(1000 - text.length())).toString();
    }
}
