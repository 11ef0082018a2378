/** Promises 13 to 18 and 23 to 25: what DATES that go by will bring, and who was SEEN. */
final class AheadEdges {
    private static final int NONE = DateVale.NONE;
    private static final int[] FAR = {Integer.MIN_VALUE, -32, -2, 7, 32, 1024, Integer.MAX_VALUE};

    private final Edges edges;

    AheadEdges(Edges edges) {
        this.edges = edges;
    }

    void all() {
        where();
        next();
        gone();
        crowd();
        refused();
        meets();
        nothingDone();
        see();
        who();
        look();
        lookOthers();
    }

    /** b comes each year till it has FADED; c and d, which clash with it, come together from then on. */
    private DateVale until(int on, int says, int dates) {
        return edges.told("house a beds 2 ; day b plain of a on " + on + " says " + says + " ; day c plain of a on " + on
            + " says 9 ; day d plain of a on " + on + " says 9 ; clash b c ; clash b d ; ", dates);
    }

    private void where() {
        Edges.Edge edge = edges.of(13, "WHERE: in which HOUSE a DAY is behind so many (0 to 60) DATES.");
        String text = "house a beds 1 ; house b beds 1 ; day c plain of b on 0 says 9 ; day d plain of a on 11 says 9 ; ";
        DateVale vale = edges.told(text);
        edge.within("behind 0", vale.where(0, 0), NONE);
        edge.within("behind 12", vale.where(0, 12), 1);
        edge.within("behind 59: d", vale.where(1, 59), 0);
        edge.within("behind 59: c", vale.where(0, 59), NONE);
        edge.within("behind 60: c", vale.where(0, 60), 1);
        edge.beyond("behind 61", vale.where(0, 61), -2);
        edge.beyond("behind -1", vale.where(0, -1), -2);
        Bench.dates(vale, 12);
        edge.within("now", vale.where(0, 0), 1);
        edge.within("behind 1", vale.where(0, 1), NONE);
        Edges.Edge answer = edges.of(13, "WHERE (NONE: nowhere); -2: others.");
        answer.within("nowhere", vale.where(1, 0), NONE);
        answer.within("somewhere", vale.where(1, 11), 0);
        answer.beyond("where(NONE, 0)", vale.where(NONE, 0), -2);
        answer.beyond("where(2, 0)", vale.where(2, 0), -2);
        for (int far : FAR) {
            answer.beyond("where(" + far + ", 0)", vale.where(far, 0), -2);
        }
        for (int far : new int[] {Integer.MIN_VALUE, -2, 62, 99, Integer.MAX_VALUE}) {
            answer.beyond("where(0, " + far + ")", vale.where(0, far), -2);
        }
        answer.beyond("no VALE", new DateVale().where(0, 0), -2);
    }

    private void next() {
        Edges.Edge edge = edges.of(14, "NEXT: behind how many (1 to 60) it COMES the next time, or is TURNED OFF.");
        DateVale vale = edges.told("house a beds 1 ; day b plain of a on 1 says 9 ; day c plain of a on 1 says 9 ; "
            + "day d early of a on 0 says 9 ; day e leap of a on 0 says 9 ; day f leap of a on 2 says 9 ; stays 4 ; ");
        edge.within("behind 1", vale.next(0), 1);
        edge.within("behind 1, TURNED OFF", vale.next(1), 1);
        edge.within("early on 0: behind 11", vale.next(2), 11);
        edge.within("a leap one on the date that is: behind 48, in the year 4", vale.next(3), 48);
        edge.within("a leap one, TURNED OFF behind 2", vale.next(4), 2);
        vale.date();
        edge.within("not this time: behind 12", vale.next(0), 12);
        edge.within("behind 1", vale.next(4), 1);
        vale.date();
        edge.within("behind 48", vale.next(4), 48);
        edge.nothingBeyond("no DAY that has not FADED waits longer than 48: NONE is for one that has");
        Edges.Edge answer = edges.of(14, "NEXT; NONE: others, not by 60.");
        answer.within("next(4)", vale.next(4), 48);
        answer.beyond("next(5)", vale.next(5), NONE);
        answer.beyond("next(NONE), with DAYS that come", vale.next(NONE), NONE);
        for (int far : FAR) {
            answer.beyond("next(" + far + "), with DAYS that come", vale.next(far), NONE);
        }
        DateVale faded = edges.told("house a beds 1 ; day b plain of a on 3 says 1 ; day c leap of a on 3 says 0 ; ");
        answer.within("it comes once", faded.next(0), 3);
        answer.beyond("one that has FADED", faded.next(1), NONE);
        Bench.dates(faded, 3);
        answer.beyond("there, and has FADED", faded.next(0), NONE);
        answer.beyond("next(NONE)", faded.next(NONE), NONE);
        answer.beyond("next(2)", faded.next(2), NONE);
        for (int far : FAR) {
            answer.beyond("next(" + far + ")", faded.next(far), NONE);
        }
        answer.beyond("no VALE", new DateVale().next(0), NONE);
    }

    private void gone() {
        Edges.Edge edge = edges.of(15, "GONE: behind how many (0 to 99) it has FADED.");
        DateVale vale = edges.told("house a beds 6 ; day b plain of a on 3 says 9 ; day c plain of a on 4 says 9 ; "
            + "day d plain of a on 4 says 0 ; day e plain of a on 1 says 1 ; day f leap of a on 3 says 3 ; day g leap of a on 4 says 3 ; ");
        edge.within("already", vale.gone(2), 0);
        edge.within("behind 1", vale.gone(3), 1);
        edge.within("3 and eight years", vale.gone(0), 99);
        edge.beyond("4 and eight years", vale.gone(1), NONE);
        edge.within("leap, 3 and eight years", vale.gone(4), 99);
        edge.beyond("leap, 4 and eight years", vale.gone(5), NONE);
        vale.date();
        edge.within("it has FADED now", vale.gone(3), 0);
        edge.within("a DATE later: 98", vale.gone(0), 98);
        edge.within("a DATE later: 99", vale.gone(1), 99);
        Edges.Edge answer = edges.of(15, "GONE; NONE: others, not by 99.");
        answer.within("gone(5)", vale.gone(5), 99);
        answer.beyond("gone(6)", vale.gone(6), NONE);
        answer.beyond("gone(NONE)", vale.gone(NONE), NONE);
        for (int far : FAR) {
            answer.beyond("gone(" + far + ")", vale.gone(far), NONE);
        }
        answer.beyond("never", edges.told("house a beds 1 ; day b plain of a on 1 says 1 ; fades 0 ; ").gone(0), NONE);
        answer.beyond("always TURNED OFF", edges.told("house a beds 1 ; day b big of a on 1 says 1 ; ").gone(0), NONE);
        answer.beyond("no VALE", new DateVale().gone(0), NONE);
    }

    private void crowd() {
        Edges.Edge edge = edges.of(16, "CROWD: behind how many (0 to 60) DATES the most DAYS are somewhere; of equal ones the first.");
        edge.within("two behind 60", until(0, 4, 0).crowd(), 60);
        edge.beyond("two behind 61: one behind 1", until(1, 5, 0).crowd(), 1);
        edge.within("a DATE later, behind 60", until(1, 5, 1).crowd(), 60);
        edge.within("two behind 59", until(1, 5, 2).crowd(), 59);
        edge.within("now", until(0, 4, 60).crowd(), 0);
        edge.within("nobody ever: the first", edges.told("house a beds 1 ; ").crowd(), 0);
        edge.within("equal ones, now among them", until(1, 9, 1).crowd(), 0);
        edge.within("equal ones, behind 11", until(1, 9, 2).crowd(), 11);
        edge.within("no VALE", new DateVale().crowd(), 0);
        DateVale moved = edges.told("house a beds 1 ; house b beds 1 ; day c plain of a on 1 says 9 ; day d plain of b on 1 says 9 ; "
            + "day e plain of a on 2 says 9 ; stays 2 ; ");
        edge.within("in all HOUSES together", moved.crowd(), 1);
        moved.build(0);
        edge.within("three behind 2", moved.crowd(), 2);
    }

    /** When b has FADED, c comes to a, and d to neither: in e there is f, with which it clashes. */
    private DateVale late(int on, int says, int dates) {
        return edges.told("house a beds 3 ; house e beds 3 ; lends a e ; day b plain of a on " + on + " says " + says
            + " ; day c big of a on " + on + " says 9 ; day f plain of e on " + on + " says 9 ; day d big of a on " + on
            + " says 9 ; clash b c ; clash f d ; ", dates);
    }

    private void refused() {
        Edges.Edge edge = edges.of(17, "REFUSED: behind how many (1 to 60) the first one is TURNED OFF; which, the least of these.");
        edge.within("behind 60", late(0, 4, 0).refused(0), 60);
        edge.within("behind 60, d", late(0, 4, 0).refused(1), 3);
        edge.beyond("behind 61", late(1, 5, 0).refused(0), NONE);
        edge.beyond("behind 61, d", late(1, 5, 0).refused(1), NONE);
        edge.within("a DATE later", late(1, 5, 1).refused(0), 60);
        DateVale two = edges.told("house a beds 1 ; day b plain of a on 2 says 9 ; day c plain of a on 1 says 9 ; "
            + "day d plain of a on 2 says 9 ; day e plain of a on 1 says 9 ; day f plain of a on 1 says 9 ; ");
        edge.within("behind 1", two.refused(0), 1);
        edge.within("e, though d is less: it is TURNED OFF later", two.refused(1), 3);
        two.date();
        edge.within("not those that were TURNED OFF by this DATE", two.refused(0), 1);
        edge.within("d", two.refused(1), 2);
        two.date();
        edge.within("a year later", two.refused(0), 11);
        DateVale first = edges.told("house a beds 1 ; day b big of a on 1 says 9 ; day c big of a on 1 says 9 ; ");
        edge.within("the DAY 0", first.refused(1), 0);
        Edges.Edge answer = edges.of(17, "REFUSED, what 0: behind how many, 1: which; NONE: others, none by 60.");
        answer.within("refused(0)", first.refused(0), 1);
        answer.within("refused(1)", first.refused(1), 0);
        answer.beyond("refused(2)", first.refused(2), NONE);
        answer.beyond("refused(-1)", first.refused(-1), NONE);
        for (int far : FAR) {
            answer.beyond("refused(" + far + ")", first.refused(far), NONE);
        }
        DateVale none = edges.told("house a beds 1 ; day b plain of a on 1 says 9 ; ");
        answer.beyond("nobody is", none.refused(0), NONE);
        answer.beyond("which, nobody", none.refused(1), NONE);
        answer.beyond("no VALE", new DateVale().refused(0), NONE);
    }

    private void meets() {
        Edges.Edge edge = edges.of(18, "MEETS of two: behind how many (0 to 60) they are in one HOUSE for the first time.");
        edge.within("behind 60", until(0, 4, 0).meets(1, 2), 60);
        edge.beyond("behind 61", until(1, 5, 0).meets(1, 2), NONE);
        edge.within("a DATE later", until(1, 5, 1).meets(2, 1), 60);
        edge.within("now", until(0, 4, 60).meets(1, 2), 0);
        edge.beyond("they clash", until(0, 4, 0).meets(0, 1), NONE);
        DateVale apart = edges.told("house a beds 1 ; house b beds 2 ; day c plain of a on 1 says 9 ; day d plain of b on 1 says 9 ; ", 1);
        edge.beyond("both somewhere, each elsewhere", apart.meets(0, 1), NONE);
        apart.move(0, 1);
        edge.within("moved there", apart.meets(0, 1), 0);
        DateVale nowhere = edges.told("house a beds 2 ; day b plain of a on 1 says 9 ; day c plain of a on 1 says 9 ; ");
        edge.within("both nowhere is no HOUSE: behind 1", nowhere.meets(0, 1), 1);
        Edges.Edge answer = edges.of(18, "MEETS; NONE: others, the same, not by 60.");
        answer.within("meets(1, 0)", nowhere.meets(1, 0), 1);
        answer.beyond("the same", nowhere.meets(1, 1), NONE);
        answer.beyond("meets(0, 2)", nowhere.meets(0, 2), NONE);
        answer.beyond("meets(2, 0)", nowhere.meets(2, 0), NONE);
        answer.beyond("meets(NONE, 0)", nowhere.meets(NONE, 0), NONE);
        answer.beyond("meets(0, NONE)", nowhere.meets(0, NONE), NONE);
        for (int far : FAR) {
            answer.beyond("meets(" + far + ", 0)", nowhere.meets(far, 0), NONE);
            answer.beyond("meets(0, " + far + ")", nowhere.meets(0, far), NONE);
        }
        nowhere.date();
        answer.beyond("the same, somewhere", nowhere.meets(0, 0), NONE);
        answer.beyond("no VALE", new DateVale().meets(0, 1), NONE);
    }

    /** No question changes what is, nor what another one answers. */
    private void nothingDone() {
        Edges.Edge edge = edges.of(13, "(DATES going by, nothing else being done.)");
        DateVale vale = late(1, 2, 1);
        vale.see(0, 0);
        int[] ahead = Edges.stateOf(vale);
        edge.within("where", vale.where(0, 0), 0);
        edge.within("next", vale.next(0), 12);
        edge.within("gone", vale.gone(0), 12);
        edge.within("crowd", vale.crowd(), 0);
        edge.within("refused", vale.refused(0), 24);
        edge.within("meets", vale.meets(0, 3), 0);
        edge.within("beds", vale.beds(24, NONE), 1);
        edge.within("laying", vale.laying() > 0, true);
        edge.within("apart", vale.apart(), 2);
        edge.within("defer", vale.defer(0) >= 0, true);
        edge.within("who", vale.who(), 1 + 8);
        edge.within("look", vale.look(), NONE);
        edge.within("spare", vale.spare(), 0);
        edge.within("chance", vale.chance(0, 6, 5), 0);
        edge.within("ages", vale.ages(1, 99, 0) > 0, true);
        edge.stays("the questions", vale, ahead);
        edge.beyond("a DATE by hand is done", vale.date(), 0);
        edge.beyond("the date", vale.count(4), 2);
    }

    private void see() {
        Edges.Edge edge = edges.of(23, "SEEN: that an unknown DAY, one of those told, is in a HOUSE, or in none (NONE), "
            + "behind so many (0 to 24) DATES; 8 at most.");
        DateVale vale = edges.told("house a beds 1 ; house b beds 1 ; day c plain of a on 1 says 9 ; day d plain of b on 1 says 9 ; ");
        edge.within("see(0, 0)", vale.see(0, 0), true);
        edge.within("see(1, 24)", vale.see(1, 24), true);
        edge.within("see(NONE, 0)", vale.see(NONE, 0), true);
        edge.within("see(NONE, 24)", vale.see(NONE, 24), true);
        edge.within("four", vale.count(10), 4);
        int[] ahead = Edges.stateOf(vale);
        edge.beyond("see(0, -1)", vale.see(0, -1), false);
        edge.beyond("see(0, 25)", vale.see(0, 25), false);
        edge.beyond("see(NONE, -1)", vale.see(NONE, -1), false);
        edge.beyond("see(NONE, 25)", vale.see(NONE, 25), false);
        edge.beyond("see(2, 0)", vale.see(2, 0), false);
        edge.beyond("see(-2, 0)", vale.see(-2, 0), false);
        edge.stays("others", vale, ahead);
        for (int more = 5; more <= 8; more++) {
            edge.within("the same once more, " + more, vale.see(NONE, 24), true);
            edge.within("SEEN", vale.count(10), more);
        }
        ahead = Edges.stateOf(vale);
        edge.beyond("a ninth", vale.see(0, 0), false);
        edge.beyond("a ninth in none", vale.see(NONE, 0), false);
        edge.stays("a ninth", vale, ahead);
        Edges.Edge answer = edges.of(23, "SEEN (house NONE: in none): true; false: others, 8 there are.");
        DateVale other = edges.told("house a beds 1 ; ");
        for (int far : FAR) {
            answer.beyond("see(" + far + ", 0)", other.see(far, 0), false);
        }
        for (int far : new int[] {Integer.MIN_VALUE, -2, 26, 99, Integer.MAX_VALUE}) {
            answer.beyond("see(0, " + far + ")", other.see(0, far), false);
        }
        answer.beyond("nothing SEEN", other.count(10), 0);
        for (int more = 1; more <= 8; more++) {
            answer.within("so many, " + more, other.see(0, 24), true);
        }
        answer.beyond("8 there are", other.see(0, 24), false);
        answer.within("no VALE, in none", new DateVale().see(NONE, 0), true);
        answer.beyond("no VALE", new DateVale().see(0, 0), false);
    }

    private void who() {
        Edges.Edge edge = edges.of(24, "WHO: DAYS by which all SEEN is so (bits).");
        String text = "house a beds 2 ; house b beds 1 ; day c plain of a on 0 says 9 ; day d plain of a on 1 says 9 ; "
            + "day e plain of b on 0 says 9 ; day f plain of b on 0 says 0 ; ";
        DateVale vale = edges.told(text);
        edge.within("nothing SEEN: all", vale.who(), 15);
        vale.see(NONE, 0);
        edge.within("all are nowhere now", vale.who(), 15);
        vale.see(NONE, 1);
        edge.within("d is not, behind 1", vale.who(), 13);
        vale.see(0, 24);
        edge.within("c, behind 24", vale.who(), 1);
        vale.see(1, 24);
        edge.beyond("none is in both", vale.who(), 0);
        DateVale both = edges.told(text);
        both.see(NONE, 24);
        edge.within("d and f are in none behind 24", both.who(), 10);
        both.see(NONE, 23);
        edge.within("behind 23, too", both.who(), 10);
        DateVale later = edges.told(text, 12);
        later.see(0, 0);
        edge.within("c, now", later.who(), 1);
        later.see(1, 12);
        edge.beyond("not in b behind 12", later.who(), 0);
        edge.beyond("no DAYS", edges.told("house a beds 1 ; ").who(), 0);
        Edges.Edge answer = edges.of(24, "WHO, as bits.");
        answer.within("the last DAY of six", six().who(), 63);
        DateVale last = six();
        last.see(0, 6);
        answer.within("the sixth", last.who(), 32);
        answer.beyond("no VALE", new DateVale().who(), 0);
    }

    private DateVale six() {
        StringBuilder text = new StringBuilder("house h beds 1 ; ");
        for (int day = 0; day < 6; day++) {
            text.append("day ").append((char) ('a' + day)).append(" plain of h on ").append(day + 1).append(" says 9 ; ");
        }
        return edges.told(text.toString());
    }

    /** b and c are alike, but for b that comes so often less. */
    private DateVale twins(int on, int says, int dates) {
        return edges.told("house a beds 2 ; day b plain of a on " + on + " says " + says + " ; day c plain of a on " + on
            + " says 9 ; ", dates);
    }

    private void look() {
        Edges.Edge edge = edges.of(25, "LOOK: the least number of DATES (0 to 24) behind which the greatest number of WHO that are in one HOUSE, "
            + "or in none, is the least, if that is less than all.");
        edge.within("behind 24 b has FADED", twins(0, 1, 0).look(), 24);
        edge.beyond("behind 25", twins(1, 2, 0).look(), NONE);
        edge.within("a DATE later", twins(1, 2, 1).look(), 24);
        edge.within("behind 23", twins(1, 2, 2).look(), 23);
        DateVale now = twins(1, 2, 25);
        edge.within("now", now.look(), 0);
        DateVale three = edges.told("house a beds 3 ; house b beds 1 ; day c plain of a on 1 says 9 ; day d plain of a on 1 says 9 ; "
            + "day e plain of b on 1 says 9 ; day f plain of b on 2 says 9 ; day g plain of a on 3 says 9 ; day i plain of a on 3 says 9 ; ");
        edge.within("behind 1: a 2, b 1, none 3; behind 2: five in none; behind 3: a 2, none 4", three.look(), 1);
        DateVale equal = edges.told("house a beds 3 ; day b plain of a on 2 says 9 ; day c plain of a on 4 says 9 ; ");
        edge.within("of equal ones the least number", equal.look(), 2);
        DateVale one = edges.told("house a beds 1 ; day b plain of a on 1 says 9 ; ");
        edge.beyond("one is all", one.look(), NONE);
        equal.see(0, 2);
        edge.beyond("WHO is b alone", equal.look(), NONE);
        DateVale best = edges.told("house a beds 3 ; house b beds 3 ; day c plain of a on 1 says 9 ; day d plain of b on 2 says 9 ; "
            + "day e plain of b on 3 says 9 ; stays 2 ; ");
        edge.within("behind 1: two in none; behind 2: each alone", best.look(), 2);
    }

    private void lookOthers() {
        Edges.Edge edge = edges.of(25, "LOOK; NONE: none parts them.");
        DateVale alike = edges.told("house a beds 2 ; day b plain of a on 1 says 9 ; day c plain of a on 1 says 9 ; ");
        edge.beyond("alike", alike.look(), NONE);
        alike.send(0);
        alike.date();
        alike.send(0);
        edge.within("one was sent off: now", alike.look(), 0);
        edge.beyond("no DAYS", edges.told("house a beds 1 ; ").look(), NONE);
        edge.beyond("no VALE", new DateVale().look(), NONE);
        DateVale nobody = twins(0, 1, 0);
        nobody.see(0, 0);
        edge.beyond("WHO is nobody", nobody.who(), 0);
        edge.beyond("nobody can't be parted", nobody.look(), NONE);
        DateVale two = edges.told("house a beds 3 ; day b plain of a on 1 says 9 ; day c plain of a on 2 says 9 ; day d plain of a on 2 says 9 ; ");
        edge.within("three: behind 1", two.look(), 1);
        two.see(NONE, 1);
        edge.within("c and d are left", two.who(), 6);
        edge.beyond("c and d are never parted", two.look(), NONE);
    }
}
