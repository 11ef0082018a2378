import java.util.NoSuchElementException;

/** Each promise by its number, with answers worked out by hand: ordinary inputs, edges, and others. */
public final class PromiseTest {
    private static final Bench BENCH = new Bench();
    private static final int NONE = DateVale.NONE;

    /** By DATES: 1: p to a, q turned off, r to b; 2: s to c; 3: p and r go; 4: s goes. */
    private static final String FULL = "house a beds 2 ; house b beds 1 ; house c beds 1 ; lends a b ; lends b c ; "
        + "day p plain of a on 1 says 5 ; day q big of a on 1 says 7 ; day r early of b on 2 says 3 ; "
        + "day s leap of c on 2 says 9 ; clash p r ; stays 2 ; ";

    private static final int[] ODD = {Integer.MIN_VALUE, -3, -2, 99, Integer.MAX_VALUE};

    public static void main(String[] args) {
        newObject();
        feed();
        vale();
        year();
        house();
        day();
        date();
        laws();
        move();
        send();
        build();
        undo();
        judged();
        where();
        next();
        gone();
        crowd();
        refused();
        meets();
        beds();
        laying();
        apart();
        defer();
        seeWhoLook();
        through();
        quiet();
        peace();
        loudest();
        eldest();
        spare();
        chance();
        rests();
        ages();
        mark();
        count();
        BENCH.end("PromiseTest");
    }

    private static void due(String what, long got, long want) {
        BENCH.due(what, got, want);
    }

    private static void due(String what, boolean got, boolean want) {
        BENCH.due(what, got, want);
    }

    private static DateVale full(int dates) {
        DateVale vale = BENCH.told(FULL);
        Bench.dates(vale, dates);
        return vale;
    }

    private static void newObject() {
        DateVale vale = new DateVale();
        for (int what = 0; what < 13; what++) {
            due("1: count(" + what + ")", vale.count(what), what == 2 ? 1 : 0);
        }
        due("1: undo()", vale.undo(), false);
        due("1: mark(0, true)", vale.mark(0, true), false);
        due("1: crowd()", vale.crowd(), 0);
        due("1: laying()", vale.laying(), 1);
        due("1: date()", vale.date(), 0);
        due("1: the date", vale.count(4), 1);
    }

    private static void feed() {
        DateVale vale = new DateVale();
        due("2: nothing", vale.feed(0, 0, 0), 0);
        due("2: other signs", vale.feed(0x7f80ff0a1f200900L, -1L, 0x7e0d0b0c0e01027fL), 3);
        due("2: ~ is none, behind two blanks", vale.vale(), 1 + 16 * 2);
        due("2: highest first", vale.feed(0x7374617973203300L, 0x3b00000000000000L, 0), 8);
        due("2: stays 3;", vale.vale(), 0);
        due("2: stays", vale.count(2), 3);
        long blanks = 0x2020202020202020L;
        for (int call = 1; call <= 41; call++) {
            due("2: call " + call, vale.feed(blanks, blanks, blanks), 24 * call);
        }
        due("2: 999", vale.feed(blanks, 0x2020202020202000L, 0), 999);
        due("2: 1000, what is beyond is left out", vale.feed(0x0061620000000000L, blanks, blanks), 1000);
        due("2: nothing more", vale.feed(blanks, 0, 0), 1000);
        due("2: signs", vale.count(12), 1000);
        due("2: a at 999", vale.vale(), 1 + 16 * 999);
        due("2: the end lies at 1", vale.feed(0x0a00000000000000L, 0, 0), 1);
        due("2: blanks alone", vale.vale(), 0);
    }

    private static void vale() {
        DateVale vale = full(2);
        due("3: TURNED OFF", vale.count(7), 1);
        due("3: a YEAR", Bench.tellYear(vale, "date ; date ;"), 0);
        vale.see(NONE, 0);
        for (int mark = 0; mark < 4; mark++) {
            vale.mark(mark, false);
        }
        vale.build(0);
        due("3: another VALE", Bench.tell(vale, "house x beds 4 ; day y plain of x on 0 says 1 ;"), 0);
        int[] want = {1, 1, 1, 0, 0, 0, 4, 0, 0, 0, 0, 0, 0};
        for (int what = 0; what < want.length; what++) {
            due("3: count(" + what + ")", vale.count(what), want[what]);
        }
        for (int mark = 0; mark < 4; mark++) {
            due("3: no MARK", vale.mark(mark, true), false);
        }
        due("3: nothing to undo", vale.undo(), false);
        due("3: no lenders", vale.house(0, 3), 0);
        due("3: no FOES", vale.day(0, 7), 0);
    }

    private static void year() {
        DateVale vale = full(0);
        due("4: a YEAR", Bench.tellYear(vale, "date;move p b;send q;build c;"), 0);
        due("4: lines", vale.count(9), 4);
        due("4: taken", vale.count(12), 0);
        due("4: faulty", Bench.tellYear(vale, "date ; date"), 1 + 16 * 11);
        due("4: lines stay", vale.count(9), 4);
        due("4: of no lines", vale.year(), 0);
        due("4: no lines", vale.count(9), 0);
        vale.date();
        due("4: a YEAR does not touch what can be undone", Bench.tellYear(vale, "date ;"), 0);
        due("4: undone", vale.undo(), true);
        due("4: the YEAR is not", vale.count(9), 1);
    }

    private static void house() {
        DateVale vale = full(2);
        int[][] want = {{2, 1, 1, 2, 4}, {1, 0, 4, 5, 2}, {1, 0, 8, 2, 8}};
        for (int house = 0; house < 3; house++) {
            for (int what = 0; what < 5; what++) {
                due("5: house(" + house + ", " + what + ")", vale.house(house, what), want[house][what]);
            }
        }
        due("5: what 5", vale.house(0, 5), -2);
        due("5: what -1", vale.house(0, -1), -2);
        due("5: house 3", vale.house(3, 0), -2);
        due("5: house -1", vale.house(-1, 0), -2);
        for (int odd : ODD) {
            due("5: house(" + odd + ", 0)", vale.house(odd, 0), -2);
            due("5: house(0, " + odd + ")", vale.house(0, odd), -2);
        }
        DateVale big = BENCH.told("house a beds 6 ; day b big of a on 1 says 40 ;");
        big.date();
        due("5: a big one lies in two", big.house(0, 1), 4);
        due("5: and is one", big.house(0, 2), 1);
    }

    private static void day() {
        DateVale vale = full(2);
        int[][] want = {
            {0, 0, 1, 4, 0, 1, 1, 4}, {1, 0, 1, 7, NONE, 0, 0, 0},
            {2, 1, 2, 2, 1, 1, 1, 1}, {3, 2, 2, 8, 2, 0, 1, 0},
        };
        for (int day = 0; day < 4; day++) {
            for (int what = 0; what < 8; what++) {
                due("6: day(" + day + ", " + what + ")", vale.day(day, what), want[day][what]);
            }
        }
        due("6: what 8", vale.day(0, 8), -2);
        due("6: what -1", vale.day(0, -1), -2);
        due("6: day 4", vale.day(4, 0), -2);
        due("6: day -1", vale.day(-1, 0), -2);
        for (int odd : ODD) {
            due("6: day(" + odd + ", 0)", vale.day(odd, 0), -2);
            due("6: day(0, " + odd + ")", vale.day(0, odd), -2);
        }
    }

    private static void date() {
        DateVale vale = full(0);
        int[] came = {5, 8, 0, 0, 0, 0, 0, 0, 0, 0, 0, 0, 5, 0, 0};
        int[] there = {5, 13, 8, 0, 0, 0, 0, 0, 0, 0, 0, 0, 5, 5, 0};
        for (int date = 0; date < came.length; date++) {
            due("7: date " + (date + 1), vale.date(), came[date]);
            due("7: who is there on " + (date + 1), vale.count(5), there[date]);
            due("7: the date", vale.count(4), (date + 1) % 12);
            due("7: the year", vale.count(3), (date + 1) / 12);
        }
        due("7: TURNED OFF twice", vale.count(7), 2);
        DateVale early = BENCH.told("house a beds 1 ; day b early of a on 0 says 2 ; day c leap of a on 0 says 9 ;");
        Bench.dates(early, 10);
        due("7: an early one of the date 0 comes on 11", early.date(), 1);
        due("7: not in the year 1", early.date(), 0);
        Bench.dates(early, 35);
        due("7: a leap one in the year 4", early.date(), 2);
        due("7: FADED ones come no more", early.count(8), 1);
        Bench.dates(early, 10);
        due("7: b has FADED", early.date(), 0);
        DateVale stays = BENCH.told("house a beds 1 ; day b plain of a on 1 says 2 ; stays 4 ;");
        stays.date();
        for (int been = 0; been < 4; been++) {
            due("7: there for " + been, stays.day(0, 5), been);
            due("7: still there", stays.day(0, 4), 0);
            stays.date();
        }
        due("7: gone behind 4", stays.day(0, 4), NONE);
        due("7: gone, so 0", stays.day(0, 5), 0);
        DateVale lenders = BENCH.told("house a beds 1 ; house b beds 2 ; house c beds 2 ; lends c a ; lends a b ; "
            + "day p plain of a on 1 says 1 ; day q plain of a on 1 says 1 ; day r big of a on 1 says 1 ; "
            + "day s plain of a on 1 says 1 ; day t plain of b on 1 says 1 ; clash q t ; ");
        due("7: the first that lends and HOLDS it", lenders.date(), 15);
        due("7: in a", lenders.house(0, 2), 1);
        due("7: in b", lenders.house(1, 2), 2 + 8);
        due("7: in c", lenders.house(2, 2), 4);
        due("7: t is TURNED OFF", lenders.count(7), 1);
    }

    /** What one that says 20 says behind its first coming, on the date 3 with another one there. */
    private static void law(String law, int says) {
        DateVale vale = BENCH.told("house a beds 6 ; day o plain of a on 3 says 1 ; day b plain of a on 3 says 20 ; "
            + "fades " + law + " ;");
        Bench.dates(vale, 3);
        due("7: fades " + law, vale.day(1, 3), says);
    }

    private static void laws() {
        law("0", 20);
        law("9", 29);
        law("10", 29);
        law("9999 * 9999 * 9999", 20 + clamped(9999 * 9999 * 9999));
        law("0 - 10", 11);
        law("0 - 8", 12);
        law("loud - 15", 25);
        law("full", 22);
        law("month", 23);
        law("times", 21);
        law("1 + 2 * 3", 27);
        law("( 1 + 2 ) * 3", 29);
        law("8 - 3 - 2", 23);
        law("2 < 3", 21);
        law("3 < 3", 20);
        law("3 = 3", 21);
        law("3 = 2 + 1", 21);
        law("not 3 + 2", 22);
        law("not not 3 + 2", 23);
        law("not ( 3 + 2 )", 20);
        law("5 and 7", 21);
        law("0 or 7", 21);
        law("7 or 0", 21);
        law("0 or 0", 20);
        law("0 and 7", 20);
        law("7 and 0", 20);
        law("1 or 0 and 0", 20);
        law("0 and 0 or 1", 21);
        law("not 0 * 5", 25);
        law("1 + ( 2 = 2 ) * 4 < 6", 21);
        DateVale most = BENCH.told("house a beds 1 ; day b plain of a on 0 says 40 ; fades 9 ;");
        Bench.dates(most, 12 * 8);
        due("7: 99 at most", most.day(0, 3), 99);
        due("7: come 8 times", most.day(0, 6), 8);
        DateVale least = BENCH.told("house a beds 1 ; day b plain of a on 1 says 3 ; fades 0 - 9 ;");
        least.date();
        due("7: 0 at least", least.day(0, 3), 0);
        DateVale times = BENCH.told("house a beds 1 ; day b plain of a on 1 says 10 ; fades 0 - times ;");
        Bench.dates(times, 25);
        due("7: less by 1, 2, 3", times.day(0, 3), 4);
    }

    private static int clamped(int more) {
        return Math.max(-9, Math.min(9, more));
    }

    private static void move() {
        DateVale vale = full(2);
        due("8: full", vale.move(0, 1), false);
        due("8: where it is", vale.move(0, 0), false);
        due("8: nowhere", vale.move(1, 0), false);
        due("8: a clash", vale.move(2, 0), false);
        due("8: it can be", vale.move(3, 0), true);
        due("8: it is there", vale.day(3, 4), 0);
        due("8: a is full", vale.house(0, 1), 0);
        due("8: c is free", vale.house(2, 1), 1);
        due("8: back", vale.move(3, 2), true);
        due("8: four can be undone", vale.count(11), 4);
        for (int odd : ODD) {
            due("8: move(" + odd + ", 0)", vale.move(odd, 0), false);
            due("8: move(0, " + odd + ")", vale.move(0, odd), false);
        }
        due("8: move(0, NONE)", vale.move(0, NONE), false);
        due("8: move(0, 3)", vale.move(0, 3), false);
        due("8: move(4, 0)", vale.move(4, 0), false);
        due("8: what can't be is not undone", vale.count(11), 4);
        due("8: a move is no coming", vale.day(3, 6), 1);
        DateVale big = BENCH.told("house a beds 2 ; house b beds 1 ; day c big of a on 1 says 4 ;");
        big.date();
        due("8: a big one wants two", big.move(0, 1), false);
        due("8: a bed more", big.build(1), 2);
        due("8: now", big.move(0, 1), true);
    }

    private static void send() {
        DateVale vale = full(2);
        due("9: nowhere", vale.send(1), false);
        due("9: send(0)", vale.send(0), true);
        due("9: nowhere now", vale.day(0, 4), NONE);
        due("9: for no time", vale.day(0, 5), 0);
        due("9: free", vale.house(0, 1), 2);
        due("9: again", vale.send(0), false);
        due("9: three can be undone", vale.count(11), 3);
        due("9: send(4)", vale.send(4), false);
        due("9: send(NONE)", vale.send(NONE), false);
        for (int odd : ODD) {
            due("9: send(" + odd + ")", vale.send(odd), false);
        }
    }

    private static void build() {
        DateVale vale = BENCH.told("house a beds 6 ; house b beds 1 ;");
        for (int beds = 7; beds <= 9; beds++) {
            due("10: a bed", vale.build(0), beds);
        }
        due("10: nine at most", vale.build(0), NONE);
        due("10: b", vale.build(1), 2);
        due("10: of all", vale.count(6), 11);
        due("10: what can't be is not undone", vale.count(11), 4);
        due("10: build(2)", vale.build(2), NONE);
        due("10: build(NONE)", vale.build(NONE), NONE);
        for (int odd : ODD) {
            due("10: build(" + odd + ")", vale.build(odd), NONE);
        }
    }

    private static void undo() {
        DateVale vale = full(1);
        vale.see(0, 0);
        vale.move(2, 2);
        vale.send(0);
        vale.build(1);
        vale.date();
        due("11: five", vale.count(11), 5);
        due("11: the DATE", vale.undo(), true);
        due("11: date", vale.count(4), 1);
        due("11: r says", vale.day(2, 3), 2);
        due("11: the bed", vale.undo(), true);
        due("11: beds", vale.house(1, 0), 1);
        due("11: the sending", vale.undo(), true);
        due("11: p is there", vale.day(0, 4), 0);
        due("11: the move", vale.undo(), true);
        due("11: r is there", vale.day(2, 4), 1);
        due("11: TURNED OFF", vale.count(7), 1);
        due("11: the first DATE", vale.undo(), true);
        due("11: nobody was TURNED OFF", vale.count(7), 0);
        due("11: nobody has come", vale.day(0, 6), 0);
        due("11: p says", vale.day(0, 3), 5);
        due("11: what is SEEN stays", vale.count(10), 1);
        due("11: nothing more", vale.undo(), false);
        Bench.dates(vale, 20);
        due("11: 16 at most", vale.count(11), 16);
        for (int back = 0; back < 16; back++) {
            due("11: one by one", vale.undo(), true);
            due("11: dates", vale.count(3) * 12 + vale.count(4), 19 - back);
        }
        due("11: no seventeenth", vale.undo(), false);
    }

    private static void judged() {
        DateVale vale = full(3);
        due("12: no YEAR", vale.judged(0), NONE);
        due("12: no YEAR, 1", vale.judged(1), NONE);
        due("12: no YEAR, 2", vale.judged(2), 0);
        due("12: others", vale.judged(3), -2);
        due("12: others, NONE", vale.judged(NONE), -2);
        for (int odd : ODD) {
            due("12: judged(" + odd + ")", vale.judged(odd), -2);
        }
        Bench.tellYear(vale, "build a ; date ; date ; send q ; send q ; move p a ; move p b ;");
        due("12: sent again", vale.judged(0), 4);
        due("12: none TURNED OFF", vale.judged(1), NONE);
        due("12: none", vale.judged(2), 0);
        Bench.tellYear(vale, "date ; move p a ;");
        due("12: move to where it is", vale.judged(0), 1);
        due("12: by the line 0", vale.judged(1), 0);
        due("12: one", vale.judged(2), 1);
        Bench.tellYear(vale, "date ; date ; move s b ; date ; date ; date ; date ; date ; date ; date ; date ; date ; "
            + "date ; date ; date ;");
        due("12: not HELD", vale.judged(0), 2);
        due("12: the line 0", vale.judged(1), 0);
        due("12: two, a year apart", vale.judged(2), 2);
        Bench.tellYear(vale, "build a;build a;build a;build a;build a;build a;build a;build a;");
        due("12: a bed beyond nine", vale.judged(0), 7);
        Bench.tellYear(vale, "date ; date ; move s a ; move s c ; build b ; send s ;");
        due("12: all can be", vale.judged(0), NONE);
        Bench.tellYear(vale, "send p ;");
        due("12: of one that is nowhere", vale.judged(0), 0);
        due("12: what is now does not matter, nor is it touched", vale.count(5), 8);
    }

    private static void where() {
        DateVale vale = full(0);
        int[] p = {NONE, 0, 0, NONE, NONE};
        int[] s = {NONE, NONE, 2, 2, NONE};
        for (int dates = 0; dates < 5; dates++) {
            due("13: p", vale.where(0, dates), p[dates]);
            due("13: q", vale.where(1, dates), NONE);
            due("13: s", vale.where(3, dates), s[dates]);
        }
        due("13: s in the year 4", vale.where(3, 50), 2);
        due("13: 60", vale.where(3, 60), NONE);
        due("13: 61", vale.where(3, 61), -2);
        due("13: -1", vale.where(3, -1), -2);
        due("13: where(4, 0)", vale.where(4, 0), -2);
        for (int odd : ODD) {
            due("13: where(" + odd + ", 0)", vale.where(odd, 0), -2);
            due("13: where(0, " + odd + ")", vale.where(0, odd), -2);
        }
        due("13: all is as ahead", vale.count(4), 0);
    }

    private static void next() {
        DateVale vale = full(0);
        due("14: p", vale.next(0), 1);
        due("14: q is TURNED OFF", vale.next(1), 1);
        due("14: s", vale.next(3), 2);
        Bench.dates(vale, 2);
        due("14: p, the next time", vale.next(0), 11);
        due("14: s", vale.next(3), 48);
        due("14: next(4)", vale.next(4), NONE);
        due("14: next(NONE)", vale.next(NONE), NONE);
        for (int odd : ODD) {
            due("14: next(" + odd + ")", vale.next(odd), NONE);
        }
        DateVale once = BENCH.told("house a beds 1 ; day b plain of a on 3 says 1 ; day c plain of a on 3 says 0 ; "
            + "day d leap of a on 0 says 4 ;");
        due("14: b", once.next(0), 3);
        due("14: c has FADED", once.next(1), NONE);
        due("14: d, not on the date that is", once.next(2), 48);
        Bench.dates(once, 3);
        due("14: b has FADED", once.next(0), NONE);
    }

    private static void gone() {
        DateVale vale = full(0);
        due("15: p", vale.gone(0), 49);
        due("15: q, TURNED OFF till p has FADED", vale.gone(1), NONE);
        due("15: r", vale.gone(2), 25);
        due("15: s", vale.gone(3), NONE);
        vale.date();
        due("15: p a date later", vale.gone(0), 48);
        due("15: gone(4)", vale.gone(4), NONE);
        due("15: gone(NONE)", vale.gone(NONE), NONE);
        for (int odd : ODD) {
            due("15: gone(" + odd + ")", vale.gone(odd), NONE);
        }
        DateVale edge = BENCH.told("house a beds 1 ; day b plain of a on 3 says 9 ; day c plain of a on 4 says 9 ; "
            + "day d plain of a on 4 says 0 ;");
        due("15: behind 99", edge.gone(0), 99);
        due("15: behind 100", edge.gone(1), NONE);
        due("15: already", edge.gone(2), 0);
    }

    private static void crowd() {
        due("16: behind 2", full(0).crowd(), 2);
        due("16: now", full(2).crowd(), 0);
        due("16: two of them behind 10, no more by 60: p and r have FADED when s comes again", full(3).crowd(), 10);
        due("16: nobody comes", BENCH.told("house a beds 1 ;").crowd(), 0);
        due("16: behind 12", until(5).crowd(), 12);
        due("16: behind 60", until(4).crowd(), 60);
    }

    /** The first of three lets the other two come no sooner than it has FADED. */
    private static DateVale until(int says) {
        return BENCH.told("house a beds 2 ; day b plain of a on 0 says " + says + " ; day c plain of a on 0 says 9 ; "
            + "day d plain of a on 0 says 9 ; clash b c ; clash b d ;");
    }

    private static void refused() {
        DateVale vale = full(0);
        due("17: behind 1", vale.refused(0), 1);
        due("17: q", vale.refused(1), 1);
        vale.date();
        due("17: behind 12", vale.refused(0), 12);
        due("17: others", vale.refused(2), NONE);
        due("17: others, NONE", vale.refused(NONE), NONE);
        for (int odd : ODD) {
            due("17: refused(" + odd + ")", vale.refused(odd), NONE);
        }
        vale.build(0);
        due("17: none by 60", vale.refused(0), NONE);
        due("17: which, none", vale.refused(1), NONE);
        DateVale two = BENCH.told("house a beds 1 ; day b plain of a on 1 says 9 ; day c big of a on 1 says 9 ; "
            + "day d big of a on 1 says 9 ;");
        due("17: the least of them", two.refused(1), 1);
        DateVale late = BENCH.told("house a beds 1 ; day b leap of a on 1 says 9 ; day c plain of a on 2 says 9 ; "
            + "day d leap of a on 2 says 9 ;");
        Bench.dates(late, 2);
        due("17: behind 60", late(4).refused(0), 60);
        due("17: behind 60, d", late(4).refused(1), 3);
        due("17: behind 72", late(5).refused(0), NONE);
        due("17: behind 48", late.refused(0), 48);
        due("17: d", late.refused(1), 2);
    }

    /** When b has FADED, c comes to a, and d to neither: e has f, with whom it clashes. */
    private static DateVale late(int says) {
        return BENCH.told("house a beds 3 ; house e beds 3 ; lends a e ; day b plain of a on 0 says " + says
            + " ; day c big of a on 0 says 9 ; day f plain of e on 0 says 9 ; day d big of a on 0 says 9 ; "
            + "clash b c ; clash f d ;");
    }

    private static void meets() {
        DateVale vale = BENCH.told("house a beds 3 ; house b beds 1 ; lends a b ; day c plain of a on 1 says 9 ; "
            + "day d plain of a on 2 says 9 ; day e plain of b on 1 says 9 ; day f plain of a on 0 says 9 ; "
            + "clash c f ; stays 2 ;");
        due("18: c and d", vale.meets(0, 1), 2);
        due("18: d and c", vale.meets(1, 0), 2);
        due("18: c and e", vale.meets(0, 2), NONE);
        due("18: f and d", vale.meets(3, 1), NONE);
        due("18: both nowhere is no meeting", vale.meets(0, 3), NONE);
        Bench.dates(vale, 2);
        due("18: now", vale.meets(0, 1), 0);
        vale.date();
        due("18: c goes to b from then on, as f is in a ahead of it", vale.meets(0, 1), NONE);
        due("18: f and e a year later", vale.meets(3, 2), 10);
        due("18: behind 60", until(4).meets(2, 1), 60);
        due("18: behind 72", until(5).meets(2, 1), NONE);
        due("18: the same", vale.meets(0, 0), NONE);
        due("18: meets(0, 4)", vale.meets(0, 4), NONE);
        due("18: meets(NONE, 0)", vale.meets(NONE, 0), NONE);
        for (int odd : ODD) {
            due("18: meets(" + odd + ", 0)", vale.meets(odd, 0), NONE);
            due("18: meets(0, " + odd + ")", vale.meets(0, odd), NONE);
        }
    }

    private static void beds() {
        DateVale vale = full(0);
        int[] one = {0, 1, 0};
        int[] two = {1, 0, 0};
        due("19: one", vale.beds(1, NONE), 1);
        due("19: one", vale.beds(36, NONE), 1);
        for (int house = 0; house < 3; house++) {
            due("19: q to b, r to c", vale.beds(1, house), one[house]);
            due("19: s wants c", vale.beds(2, house), two[house]);
        }
        due("19: 0 dates", vale.beds(0, NONE), -2);
        due("19: 37 dates", vale.beds(37, NONE), -2);
        due("19: house 3", vale.beds(1, 3), -2);
        due("19: house -2", vale.beds(1, -2), -2);
        for (int odd : ODD) {
            due("19: beds(" + odd + ", NONE)", vale.beds(odd, NONE), -2);
            due("19: beds(1, " + odd + ")", vale.beds(1, odd), -2);
        }
        vale.date();
        due("19: none for 11", vale.beds(11, NONE), 0);
        due("19: none for 11, in a", vale.beds(11, 0), 0);
        due("19: all is as ahead", vale.count(6), 4);
        DateVale never = BENCH.told("house a beds 1 ; day b plain of a on 1 says 9 ; day c plain of a on 1 says 9 ; clash b c ;");
        due("19: by none", never.beds(1, NONE), -2);
        due("19: by none, in a", never.beds(1, 0), -2);
        DateVale two2 = BENCH.told("house a beds 1 ; day b big of a on 1 says 9 ; day c big of a on 1 says 9 ;");
        due("19: three would be wanted", two2.beds(1, NONE), -2);
        two2.build(0);
        due("19: two", two2.beds(1, NONE), 2);
        DateVale nine = BENCH.told("house a beds 6 ; day b big of a on 1 says 9 ; day c big of a on 1 says 9 ; "
            + "day d big of a on 1 says 9 ; day e big of a on 1 says 9 ; day f big of a on 1 says 9 ;");
        nine.build(0);
        due("19: nine at most there: 7 and 3", nine.beds(1, NONE), -2);
        nine.build(0);
        due("19: nine at most there: 8 and 2", nine.beds(1, NONE), -2);
        DateVale just = BENCH.told("house a beds 6 ; day b big of a on 1 says 9 ; day c big of a on 1 says 9 ; "
            + "day d big of a on 1 says 9 ; day e big of a on 1 says 9 ; day f plain of a on 1 says 9 ;");
        due("19: two a HOUSE", just.beds(1, NONE), -2);
        for (int fewer = 2; fewer >= 0; fewer--) {
            just.build(0);
            due("19: nine there", just.beds(1, NONE), fewer);
        }
    }

    private static void laying() {
        due("20: nobody", full(0).laying(), 1);
        DateVale vale = full(2);
        due("20: p, r, s in beds 2, 1, 1, p and r apart", vale.laying(), 10);
        vale.send(3);
        due("20: p, r", vale.laying(), 6);
        vale.build(0);
        due("20: the clash stays", vale.laying(), 6);
        DateVale big = BENCH.told("house a beds 3 ; house b beds 2 ; day c big of a on 1 says 9 ; "
            + "day d plain of a on 1 says 9 ; day e plain of b on 1 says 1 ;");
        big.date();
        due("20: c in a: d, e not both there; c in b: both in a", big.laying(), 4);
    }

    private static void apart() {
        due("21: no DAYS", BENCH.told("house a beds 1 ;").apart(), 0);
        due("21: two", full(0).apart(), 2);
        String days = "house h beds 1 ; day a plain of h on 1 says 0 ; day b plain of h on 1 says 0 ; "
            + "day c plain of h on 1 says 0 ; day d plain of h on 1 says 0 ; day e plain of h on 1 says 0 ; "
            + "day f plain of h on 1 says 0 ; ";
        due("21: none clash", BENCH.told(days).apart(), 1);
        due("21: a ring of five", BENCH.told(days + "clash a b ; clash b c ; clash c d ; clash d e ; clash e a ;").apart(), 3);
        due("21: a ring of four", BENCH.told(days + "clash a b ; clash b c ; clash c d ; clash d a ;").apart(), 2);
        StringBuilder all = new StringBuilder(days);
        for (char day = 'a'; day <= 'f'; day++) {
            for (char other = 'a'; other < day; other++) {
                all.append("clash ").append(day).append(' ').append(other).append(';');
            }
        }
        due("21: all clash", BENCH.told(all.toString()).apart(), 6);
    }

    private static void defer() {
        String two = "house a beds 2 ; day b plain of a on 0 says 9 ; day c plain of a on 0 says 9 ; stays 4 ;";
        due("22: from 4 on", BENCH.told(two).defer(0), 4);
        due("22: from 4 on, c", BENCH.told(two).defer(1), 4);
        DateVale early = BENCH.told("house a beds 2 ; day b plain of a on 0 says 9 ; day c early of a on 0 says 9 ; stays 4 ;");
        due("22: early ones come ahead", early.defer(1), 5);
        due("22: and are not met behind", early.defer(0), 3);
        Bench.dates(early, 11);
        due("22: c is there, b comes: two at once, whatever the date", early.defer(1), 0);
        String three = "house a beds 3 ; day g plain of a on 0 says %d ; day b plain of a on 0 says 9 ; "
            + "day c plain of a on 0 says 9 ; clash g b ; clash g c ;";
        due("22: two at once behind 24", BENCH.told(String.format(three, 1)).defer(2), 1);
        DateVale beyond = BENCH.told(String.format(three, 2));
        Bench.dates(beyond, 11);
        due("22: two at once behind 25 alone", beyond.defer(2), 0);
        DateVale both = BENCH.told("house a beds 2 ; day b plain of a on 11 says 1 ; day c plain of a on 11 says 1 ;");
        Bench.dates(both, 11);
        due("22: two now do not matter, none comes", both.defer(0), 0);
        DateVale now = BENCH.told("house a beds 3 ; day b plain of a on 1 says 1 ; day c plain of a on 1 says 9 ; "
            + "day d plain of a on 0 says 9 ;");
        Bench.dates(now, 1);
        due("22: two now, yet not on 0 with d", now.defer(1), 1);
        DateVale vale = full(0);
        due("22: others", vale.defer(4), NONE);
        due("22: others, NONE", vale.defer(NONE), NONE);
        for (int odd : ODD) {
            due("22: defer(" + odd + ")", vale.defer(odd), NONE);
        }
        due("22: its date stays", vale.day(0, 2), 1);
        due("22: p away from r and s", vale.defer(0), 0);
    }

    private static void seeWhoLook() {
        DateVale vale = full(0);
        due("24: all", vale.who(), 15);
        due("25: behind 1: p; r; q, s; behind 2: each alone", vale.look(), 2);
        due("23: see(3, 0)", vale.see(3, 0), false);
        due("23: see(-2, 0)", vale.see(-2, 0), false);
        due("23: see(0, 25)", vale.see(0, 25), false);
        due("23: see(0, -1)", vale.see(0, -1), false);
        for (int odd : ODD) {
            due("23: see(" + odd + ", 0)", vale.see(odd, 0), false);
            due("23: see(0, " + odd + ")", vale.see(0, odd), false);
        }
        due("23: nothing SEEN", vale.count(10), 0);
        due("23: in none", vale.see(NONE, 1), true);
        due("24: q, s", vale.who(), 10);
        due("25: behind 2", vale.look(), 2);
        due("23: in c", vale.see(2, 2), true);
        due("24: s", vale.who(), 8);
        due("25: none parts one", vale.look(), NONE);
        for (int more = 2; more < 8; more++) {
            due("23: the " + more + "th", vale.see(NONE, 24), true);
        }
        due("23: 8 at most", vale.see(NONE, 24), false);
        due("23: 8", vale.count(10), 8);
        vale.date();
        due("24: behind a DATE more", vale.who(), 0);
        due("25: nobody", vale.look(), NONE);
        DateVale alike = BENCH.told("house a beds 2 ; day b plain of a on 1 says 9 ; day c plain of a on 1 says 9 ;");
        due("25: alike", alike.look(), NONE);
        due("24: both", alike.who(), 3);
        alike.see(0, 0);
        due("24: neither", alike.who(), 0);
        String twins = "house a beds 2 ; day b plain of a on 0 says %d ; day c plain of a on 0 says 9 ;";
        DateVale parted = BENCH.told(String.format(twins, 1));
        due("25: behind 24", parted.look(), 24);
        due("23: behind 24", parted.see(0, 24), true);
        due("24: c", parted.who(), 2);
        due("25: behind 36", BENCH.told(String.format(twins, 2)).look(), NONE);
    }

    private static void through() {
        DateVale vale = BENCH.told("house a beds 1 ; house b beds 1 ; house c beds 1 ; house d beds 1 ; "
            + "lends a b ; lends b c ; lends c d ;");
        int[][] want = {{0, 1, 2, 3}, {1, 0, 1, 2}, {2, 1, 0, 1}, {3, 2, 1, 0}};
        for (int house = 0; house < 4; house++) {
            for (int other = 0; other < 4; other++) {
                due("26: through(" + house + ", " + other + ")", vale.through(house, other), want[house][other]);
            }
        }
        due("26: through(4, 4)", vale.through(4, 4), NONE);
        due("26: through(NONE, NONE)", vale.through(NONE, NONE), NONE);
        for (int odd : ODD) {
            due("26: through(" + odd + ", 0)", vale.through(odd, 0), NONE);
            due("26: through(0, " + odd + ")", vale.through(0, odd), NONE);
        }
        DateVale apart = BENCH.told("house a beds 1 ; house b beds 1 ; house c beds 1 ; lends b c ;");
        due("26: never", apart.through(0, 2), NONE);
        due("26: never back", apart.through(2, 0), NONE);
        due("26: the same", apart.through(0, 0), 0);
    }

    private static void quiet() {
        DateVale vale = full(0);
        due("27: r", vale.quiet(), 2);
        due("27: the first of equal ones", BENCH.told("house a beds 1 ; day b plain of a on 1 says 4 ; "
            + "day c plain of a on 1 says 3 ; day d plain of a on 1 says 3 ;").quiet(), 1);
        due("27: b", BENCH.told("house a beds 1 ; day b plain of a on 1 says 3 ; day c plain of a on 1 says 3 ; "
            + "day d plain of a on 1 says 4 ;").quiet(), 0);
        due("27: no DAYS", BENCH.told("house a beds 1 ;").quiet(), NONE);
    }

    private static void peace() {
        DateVale vale = BENCH.told("house a beds 6 ; house b beds 2 ; day c plain of a on 1 says 9 ; "
            + "day d plain of a on 1 says 9 ; day e plain of a on 1 says 9 ; day f plain of b on 1 says 9 ; "
            + "day g plain of b on 1 says 1 ; day i plain of b on 2 says 1 ;");
        due("28: nobody", vale.peace(), 0);
        vale.date();
        due("28: three and one", vale.peace(), 4);
        vale.send(0);
        due("28: one and one", vale.peace(), 2);
    }

    private static void loudest() {
        due("29: nobody", full(0).loudest(), NONE);
        DateVale vale = full(2);
        due("29: s in c", vale.loudest(), 2);
        vale.send(3);
        due("29: p in a", vale.loudest(), 0);
        DateVale equal = BENCH.told("house a beds 1 ; house b beds 1 ; day c plain of b on 1 says 4 ; "
            + "day d plain of a on 1 says 4 ;");
        equal.date();
        due("29: the first of equal ones", equal.loudest(), 0);
        DateVale low = BENCH.told("house a beds 1 ; house b beds 1 ; day c plain of b on 1 says 2 ;");
        low.date();
        due("29: a TALK of 1", low.loudest(), 1);
        DateVale still = BENCH.told("house a beds 1 ; day c plain of a on 1 says 1 ;");
        still.date();
        due("29: one that says nothing is there", still.house(0, 2), 1);
        due("29: no TALK", still.loudest(), NONE);
    }

    private static void eldest() {
        DateVale vale = BENCH.told("house a beds 6 ; house b beds 2 ; day c plain of a on 3 says 9 ; "
            + "day d plain of a on 2 says 9 ; day e plain of a on 1 says 9 ; day f plain of a on 1 says 9 ; stays 3 ;");
        Bench.dates(vale, 3);
        due("30: the first of equal ones", vale.eldest(0), 2);
        due("30: nobody", vale.eldest(1), NONE);
        due("30: c to b", vale.move(0, 1), true);
        due("30: c", vale.eldest(1), 0);
        vale.send(2);
        due("30: f", vale.eldest(0), 3);
        vale.send(3);
        due("30: d", vale.eldest(0), 1);
        due("30: eldest(2)", vale.eldest(2), NONE);
        due("30: eldest(NONE)", vale.eldest(NONE), NONE);
        for (int odd : ODD) {
            due("30: eldest(" + odd + ")", vale.eldest(odd), NONE);
        }
    }

    private static void spare() {
        due("31: q is TURNED OFF anyway", full(0).spare(), 0);
        due("31: not if nobody comes; of one bed none is spared",
            BENCH.told("house a beds 2 ; house b beds 1 ; house c beds 6 ;").spare(), 5);
        DateVale each = BENCH.told("house a beds 2 ; house b beds 2 ; lends a b ; day c plain of a on 1 says 9 ; "
            + "day d plain of a on 1 says 9 ; day e plain of b on 1 says 9 ;");
        due("31: each alone", each.spare(), 3);
        DateVale leap = BENCH.told("house a beds 2 ; day c leap of a on 1 says 9 ; day d leap of a on 1 says 9 ;");
        due("31: behind 1", leap.spare(), 0);
        leap.date();
        due("31: not in 24 DATES again", leap.spare(), 1);
        due("31: all is as ahead", leap.count(6), 2);
        DateVale late = BENCH.told("house a beds 2 ; day c leap of a on 0 says 9 ; day d leap of a on 0 says 9 ;");
        Bench.dates(late, 23);
        due("31: behind 25", late.spare(), 1);
        late.date();
        due("31: behind 24", late.spare(), 0);
        DateVale edge = BENCH.told("house a beds 2 ; day c plain of a on 0 says 9 ; day d plain of a on 0 says 9 ;");
        due("31: behind 12", edge.spare(), 0);
    }

    private static void chance() {
        String text = "house a beds 1 ; day b plain of a on 1 says 9 ; day c plain of a on 2 says 9 ; "
            + "day d plain of a on 3 says 9 ; stays 4 ; ";
        DateVale vale = BENCH.told(text);
        due("32: b", vale.chance(0, 6, 5), 0);
        due("32: c in one", vale.chance(1, 1, 5), 0);
        due("32: c, unless it is flooded", vale.chance(1, 2, 3), 700000);
        due("32: a flood ahead of nobody", vale.chance(1, 6, 3), 700000);
        due("32: d, unless the last flood takes it", vale.chance(2, 3, 3), 700000);
        due("32: never flooded", vale.chance(1, 6, 0), 1000000);
        due("32: always flooded", vale.chance(1, 6, 10), 0);
        due("32: of ten", vale.chance(1, 2, 9), 100000);
        DateVale both = BENCH.told("house a beds 1 ; day b plain of a on 1 says 9 ; day c plain of a on 4 says 9 ; stays 4 ; ");
        due("32: three floods could take b", both.chance(1, 4, 1), 729000);
        due("32: and two more DATES do not matter", both.chance(1, 6, 1), 729000);
        due("32: day 3", vale.chance(3, 1, 5), NONE);
        due("32: 0 DATES", vale.chance(0, 0, 5), NONE);
        due("32: 7 DATES", vale.chance(0, 7, 5), NONE);
        due("32: odds -1", vale.chance(0, 1, -1), NONE);
        due("32: odds 11", vale.chance(0, 1, 11), NONE);
        for (int odd : ODD) {
            due("32: chance(" + odd + ", 1, 5)", vale.chance(odd, 1, 5), NONE);
            due("32: chance(0, " + odd + ", 5)", vale.chance(0, odd, 5), NONE);
            due("32: chance(0, 1, " + odd + ")", vale.chance(0, 1, odd), NONE);
        }
    }

    private static void restsDue(int lose, int sits, int gives, int... want) {
        DateVale vale = new DateVale();
        String chair = "33: rests(" + lose + ", " + sits + ", " + gives + ", ";
        due(chair + "NONE)", vale.rests(lose, sits, gives, NONE), want.length);
        for (int at = 0; at < want.length; at++) {
            due(chair + at + ")", vale.rests(lose, sits, gives, at), want[at]);
        }
        throwsNone(lose, sits, gives, want.length);
        throwsNone(lose, sits, gives, -2);
    }

    private static void throwsNone(int lose, int sits, int gives, int what) {
        boolean thrown = false;
        try {
            new DateVale().rests(lose, sits, gives, what);
        } catch (NoSuchElementException none) {
            thrown = true;
        }
        due("33: rests(" + lose + ", " + sits + ", " + gives + ", " + what + ") throws", thrown, true);
    }

    private static void rests() {
        restsDue(2, 5, 1, 1, 2);
        restsDue(0, 5, 0, 1, 2, 3);
        restsDue(1, 0, 0, 0, 1, 2);
        restsDue(0, 0, 0, 0, 1, 2, 3);
        restsDue(0, 0, 9, 0, 1, 2);
        restsDue(9, 9, 9, 1, 2);
        int[] wrong = {Integer.MIN_VALUE, -1, 10, Integer.MAX_VALUE};
        for (int odd : wrong) {
            throwsNone(odd, 1, 1, NONE);
            throwsNone(1, odd, 1, NONE);
            throwsNone(1, 1, odd, NONE);
            throwsNone(odd, 1, 1, 0);
        }
        throwsNone(1, 1, 1, Integer.MIN_VALUE);
        throwsNone(1, 1, 1, Integer.MAX_VALUE);
    }

    private static void ages() {
        DateVale none = BENCH.told("house a beds 1 ;");
        due("34: no DAYS", none.ages(5, 99, 0), 0);
        DateVale vale = full(0);
        due("34: one DATE, COME", vale.ages(0, 1, 0), 2);
        due("34: one DATE, TURNED OFF", vale.ages(0, 1, 1), 1);
        due("34: one DATE, says", vale.ages(0, 1, 2), 4 + 7 + 2 + 9);
        due("34: all is as ahead", vale.count(4), 0);
        due("34: nothing can be undone", vale.count(11), 0);
        // SEED 2: 2207042835 modulo 2147483648 is 59559187; / 65536 is 908; modulo 6 is 2: nothing is done.
        // SEED 13: 14345710530 modulo 2147483648 is 1460808642; / 65536 is 22290; modulo 6 is 0: one is SENT off.
        // Then g is (1460808642 * 1103515245 + 12345) modulo 2147483648, / 65536, modulo 4.
        Bench.dates(vale, 1);
        due("34: nothing done, r and p stay", vale.ages(2, 1, 0), 1);
        due("34: says at last", vale.ages(2, 1, 2), 4 + 7 + 2 + 8);
        DateVale one = BENCH.told("house a beds 1 ; day b plain of a on 1 says 9 ; day c plain of a on 2 says 9 ; stays 4 ;");
        one.date();
        due("34: b SENT off or c TURNED OFF", one.ages(13, 1, 0) + one.ages(13, 1, 1), 1);
        due("34: as the draw says", one.ages(13, 1, 0), sentByThirteen() == 0 ? 1 : 0);
        due("34: seed -1", vale.ages(-1, 1, 0), NONE);
        due("34: seed 10000", vale.ages(10000, 1, 0), NONE);
        due("34: 0 DATES", vale.ages(0, 0, 0), NONE);
        due("34: 100 DATES", vale.ages(0, 100, 0), NONE);
        due("34: what 3", vale.ages(0, 1, 3), NONE);
        due("34: what -1", vale.ages(0, 1, -1), NONE);
        for (int odd : new int[] {Integer.MIN_VALUE, -3, 100000, Integer.MAX_VALUE}) {
            due("34: ages(" + odd + ", 1, 0)", vale.ages(odd, 1, 0), NONE);
            due("34: ages(0, " + odd + ", 0)", vale.ages(0, odd, 0), NONE);
            due("34: ages(0, 1, " + odd + ")", vale.ages(0, 1, odd), NONE);
        }
    }

    private static int sentByThirteen() {
        long second = (1460808642L * 1103515245L + 12345L) % 2147483648L;
        return (int) (second / 65536L % 2L);
    }

    private static void mark() {
        DateVale vale = full(1);
        vale.see(1, 1);
        due("35: laid", vale.mark(3, false), true);
        vale.build(2);
        vale.see(NONE, 1);
        vale.date();
        vale.send(3);
        Bench.tellYear(vale, "date ;");
        due("35: gone back to", vale.mark(3, true), true);
        due("35: the date", vale.count(4), 1);
        due("35: the beds", vale.count(6), 4);
        due("35: SEEN", vale.count(10), 1);
        due("35: r", vale.who(), 4);
        due("35: the YEAR stays", vale.count(9), 1);
        due("35: nothing can be undone", vale.undo(), false);
        vale.date();
        due("35: back again", vale.mark(3, true), true);
        due("35: the date", vale.count(4), 1);
        due("35: nothing on it", vale.mark(2, true), false);
        vale.date();
        due("35: nothing on it", vale.mark(0, true), false);
        due("35: all stays", vale.count(4), 2);
        due("35: laying one does not matter to UNDO", vale.mark(0, false), true);
        due("35: undone", vale.undo(), true);
        due("35: mark(4, false)", vale.mark(4, false), false);
        due("35: mark(NONE, false)", vale.mark(NONE, false), false);
        for (int odd : ODD) {
            due("35: mark(" + odd + ", false)", vale.mark(odd, false), false);
            due("35: mark(" + odd + ", true)", vale.mark(odd, true), false);
        }
    }

    private static void count() {
        DateVale vale = full(14);
        Bench.tellYear(vale, "date ; date ; date ;");
        vale.see(NONE, 3);
        vale.see(NONE, 3);
        Bench.feed(vale, "abc");
        int[] want = {3, 4, 2, 1, 2, 5, 4, 2, 0, 3, 2, 14, 3};
        for (int what = 0; what < want.length; what++) {
            due("36: count(" + what + ")", vale.count(what), want[what]);
        }
        due("36: count(13)", vale.count(13), NONE);
        due("36: count(-1)", vale.count(-1), NONE);
        for (int odd : ODD) {
            due("36: count(" + odd + ")", vale.count(odd), NONE);
        }
        DateVale faded = BENCH.told("house a beds 1 ; day b plain of a on 1 says 0 ; day c plain of a on 1 says 1 ; "
            + "day d plain of a on 2 says 2 ;");
        due("36: FADED from the first", faded.count(8), 1);
        faded.date();
        due("36: c too", faded.count(8), 3);
        due("36: and is there", faded.count(5), 2);
    }
}
